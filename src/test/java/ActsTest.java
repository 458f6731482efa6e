/** Promises 29 to 35: acts of the hero whose turn it is. */
public final class ActsTest {
  private static final Class<IndexOutOfBoundsException> NO_INDEX = IndexOutOfBoundsException.class;
  private static final Class<IllegalArgumentException> BAD = IllegalArgumentException.class;
  private static final Class<IllegalStateException> STATE = IllegalStateException.class;
  private static final Class<UnsupportedOperationException> CAN_NOT =
      UnsupportedOperationException.class;

  public static void main(String[] args) {
    attackByDice();
    attackWithTwoDice();
    attackRefused();
    guards();
    sidesThatReact();
    strikesBack();
    reactionsOnReactions();
    attackComesToNothing();
    harmBesideLife();
    stepCosts();
    stepRefused();
    stepReactions();
    stand();
    ready();
    readyRefused();
    castRefused();
    bless();
    burn();
    hold();
    shield();
    undone();
    strikesAtSpells();
    minding();
    mindsAnother();
    Expect.finish("ActsTest");
  }

  /** Hero 0 of side 0, whose turn it is, at (1, 1); hero 1 of side 1 at (2, 1). */
  private static HeroTable duel() {
    HeroTable t = new HeroTable();
    t.addHero(0, 40, 20, 1, 1);
    t.addHero(1, 40, 10, 2, 1);
    t.begin();
    return t;
  }

  private static void tell(HeroTable t, int... dice) {
    for (int die : dice) {
      t.tellDie(die);
    }
  }

  private static void nextRound(HeroTable t) {
    int round = t.round();
    for (int i = 0; i < 6 && t.round() == round; i++) {
      t.endTurn();
    }
  }

  private static int attackWith(HeroTable t, int... dice) {
    nextRound(t);
    tell(t, dice);
    int harm = t.attack(1);
    Expect.same("29 dice used", t.dice(), 0);
    return harm;
  }

  private static void attackByDice() {
    HeroTable t = duel();
    Expect.same("29 7 misses", attackWith(t, 7), -1);
    Expect.same("29 8 hits", attackWith(t, 8), 5);
    Expect.same("7 life", t.lifeOf(1), 35);
    Expect.same("29 20 twice", attackWith(t, 20), 10);
    t.setBase(0, 't', 40);
    Expect.same("29 1 misses", attackWith(t, 1), -1);
    t.setBase(0, 't', -20);
    Expect.same("29 19 misses", attackWith(t, 19), -1);
    Expect.same("29 20 hits", attackWith(t, 20), 10);
    t.setBase(0, 'd', -7);
    Expect.same("29 at least 0", attackWith(t, 20), 0);
    Expect.same("7 life as before", t.lifeOf(1), 15);
    t.setBase(0, 'd', 40);
    Expect.same("29 whatever is taken", attackWith(t, 20), 80);
    Expect.same("7 down to 0", t.lifeOf(1), 0);
    Expect.same("38 what was taken", t.harmDone(), 40L);
    Expect.same("39 share", t.hitShare(), 5f / 8f);
  }

  private static void attackWithTwoDice() {
    HeroTable t = duel();
    t.afflict(1, 'p', 0, 0, 0);
    Expect.same("29 prone: the greater", attackWith(t, 2, 8), 5);
    t.afflict(0, 'b', 0, 0, 0);
    Expect.same("29 both: just one", attackWith(t, 7), -1);
    t.endSource(0);
    Expect.same("29 blind: the lesser", attackWith(t, 7, 20), -1);
    Expect.same("29 blind, and hits", attackWith(t, 8, 20), 5);
    t.endSource(1);
    t.afflict(0, 'p', 0, 0, 0);
    Expect.same("29 prone itself: the lesser", attackWith(t, 20, 8), 5);
    t.endSource(2);
    t.afflict(1, 'i', 0, 0, 0);
    Expect.same("29 the other invisible: the lesser", attackWith(t, 20, 7), -1);
    t.afflict(0, 'i', 0, 0, 0);
    Expect.same("29 both invisible", attackWith(t, 8), 5);
    t.endSource(3);
    Expect.same("29 invisible: the greater", attackWith(t, 20, 1), 10);
    t.endSource(4);
    t.afflict(1, 'h', 0, 0, 0);
    Expect.same("29 stunned: the greater", attackWith(t, 1, 8), 5);
    t.setImmune(1, 'h', true);
    Expect.same("29 immune: one", attackWith(t, 8), 5);
  }

  private static void attackRefused() {
    HeroTable t = new HeroTable();
    t.addHero(0, 40, 20, 1, 1);
    t.addHero(1, 40, 10, 2, 2);
    t.addHero(1, 40, 5, 3, 1);
    Expect.refuses("29 no hero first", NO_INDEX, () -> t.attack(3));
    Expect.refuses("29 -1", NO_INDEX, () -> t.attack(-1));
    Expect.refuses("29 no turn", STATE, () -> t.attack(1));
    t.begin();
    Expect.refuses("29 too far", CAN_NOT, () -> t.attack(2));
    Expect.refuses("29 itself", CAN_NOT, () -> t.attack(0));
    t.afflict(0, 's', 0, 0, 0);
    Expect.refuses("29 stunned", CAN_NOT, () -> t.attack(1));
    t.endSource(0);
    Expect.same("29 across", t.attack(1), 5);
    Expect.refuses("29 used", CAN_NOT, () -> t.attack(1));
    t.endTurn();
    Expect.same("29 its own side", t.attack(2), 5);
  }

  private static void guards() {
    HeroTable t = new HeroTable();
    t.addHero(1, 40, 30, 1, 1);
    t.addHero(1, 40, 25, 2, 2);
    t.addHero(1, 40, 20, 4, 4);
    t.addHero(0, 40, 10, 2, 1);
    t.begin();
    t.ready('a', 'g');
    t.endTurn();
    t.ready('a', 'g');
    t.endTurn();
    t.ready('a', 'g');
    t.endTurn();
    tell(t, 11);
    Expect.same("29 two of three are near: 15 misses 16", t.attack(0), -1);
    Expect.no("28 used up", t.canReact(0));
    Expect.no("28 used up by the second", t.canReact(1));
    Expect.no("28 used up by the far one", t.canReact(2));
    nextRound(t);
    t.endTurn();
    t.endTurn();
    t.endTurn();
    tell(t, 8);
    Expect.same("29 for this attack alone", t.attack(0), 5);
    nextRound(t);
    t.ready('a', 'g');
    t.endTurn();
    t.ready('a', 'g');
    t.endTurn();
    t.ready('a', 'g');
    t.endTurn();
    tell(t, 12);
    Expect.same("29 16 hits 16", t.attack(0), 5);
  }

  private static void sidesThatReact() {
    HeroTable t = new HeroTable();
    t.addHero(0, 40, 30, 1, 2);
    t.addHero(0, 40, 20, 1, 1);
    t.addHero(1, 40, 10, 2, 1);
    t.begin();
    t.ready('a', 's');
    t.endTurn();
    t.attack(2);
    Expect.yes("29 the side of who attacks does not react", t.canReact(0));
    Expect.same("7 it was not struck", t.lifeOf(1), 40);
    t.endTurn();
    t.endTurn();
    t.ready('a', 's');
    t.endTurn();
    t.attack(0);
    Expect.no("29 who is attacked by its own side", t.canReact(0));
    Expect.same("7 strikes back", t.lifeOf(1), 35);
    Expect.same("7 and was struck", t.lifeOf(0), 35);
    t.endTurn();
    t.endTurn();
    t.ready('a', 's');
    t.afflict(0, 's', 0, 0, 0);
    t.endTurn();
    t.endTurn();
    t.attack(0);
    Expect.yes("29 who is stunned keeps its reaction", t.canReact(0));
    Expect.same("7 and does nothing", t.lifeOf(2), 35);
  }

  private static void strikesBack() {
    HeroTable t = duel();
    t.endTurn();
    t.ready('a', 's');
    t.endTurn();
    tell(t, 20, 8);
    Expect.same("29 behind the reaction", t.attack(1), 5);
    Expect.same("7 struck back", t.lifeOf(0), 30);
    Expect.same("7 struck", t.lifeOf(1), 35);
    t.setBase(1, 'd', 30);
    t.endTurn();
    t.ready('a', 's');
    t.endTurn();
    tell(t, 8, 20);
    Expect.same("29 who attacks comes down", t.attack(1), -2);
    Expect.same("21 no second die", t.dice(), 1);
    Expect.same("39 two of two and one", t.hitShare(), 1f);
  }

  private static void reactionsOnReactions() {
    HeroTable t = new HeroTable();
    t.addHero(0, 40, 30, 1, 1);
    t.addHero(1, 40, 25, 2, 1);
    t.addHero(0, 40, 20, 1, 2);
    t.addHero(1, 40, 15, 2, 2);
    t.begin();
    t.endTurn();
    t.ready('a', 's');
    t.endTurn();
    t.ready('a', 's');
    t.endTurn();
    t.ready('a', 's');
    t.endTurn();
    // 0 attacks 1; 1 strikes 0; 2 strikes 1 for 0; 3 strikes 2 for 1; then all in turn.
    tell(t, 9, 20, 8, 7);
    Expect.same("29 the last die", t.attack(1), -1);
    Expect.same("7 of 2", t.lifeOf(2), 35);
    Expect.same("7 of 1", t.lifeOf(1), 30);
    Expect.same("7 of 0", t.lifeOf(0), 35);
    Expect.same("7 of 3", t.lifeOf(3), 40);
    Expect.same("39 of four", t.hitShare(), 0.75f);
    nextRound(t);
    t.afflict(1, 's', 0, 1, 0);
    Expect.no("28 nothing left", t.canReact(3));
  }

  private static void attackComesToNothing() {
    HeroTable t = duel();
    t.afflict(1, 'd', 0, 0, 0);
    tell(t, 20);
    Expect.same("29 the other is down", t.attack(1), -2);
    Expect.same("21 without a die", t.dice(), 1);
    Expect.refuses("29 action used", CAN_NOT, () -> t.cast('s', 0, 0));
    Expect.refuses("39 none with a die", ArithmeticException.class, () -> t.hitShare());
    t.setImmune(1, 'd', true);
    nextRound(t);
    Expect.same("29 immune is not down", t.attack(1), 10);
  }

  private static void harmBesideLife() {
    HeroTable t = duel();
    t.setSpare(1, 7);
    t.attack(1);
    Expect.same("8 taken first of it", t.spareOf(1), 2);
    Expect.same("7 none of the life", t.lifeOf(1), 40);
    nextRound(t);
    t.attack(1);
    Expect.same("8 the rest of it", t.spareOf(1), 0);
    Expect.same("7 then of the life", t.lifeOf(1), 37);
    Expect.same("38 both", t.harmDone(), 10L);
    t.setBase(0, 'd', 40);
    nextRound(t);
    t.attack(1);
    Expect.yes("29 down with 0", t.has(1, 'd'));
    Expect.same("38 all", t.harmDone(), 47L);
    t.endSource(0);
    t.afflict(1, 'd', 0, 3, 1);
    t.setImmune(1, 'd', true);
    nextRound(t);
    Expect.same("29 told whatever is taken", t.attack(1), 40);
    Expect.same("38 nothing taken", t.harmDone(), 47L);
    Expect.same("29 down by one that lasts", t.sources(), 3);
  }

  private static void stepCosts() {
    HeroTable t = new HeroTable();
    t.addHero(0, 40, 20, 3, 3);
    t.setBase(0, 's', 15);
    t.begin();
    int[] dx = {1, 1, 0, -1, -1, -1, 0, 1};
    int[] dy = {0, 1, 1, 1, 0, -1, -1, -1};
    for (int i = 0; i < 8; i++) {
      int cell = t.cellOf(0);
      Expect.yes("30 goes", t.step(dx[i], dy[i]));
      Expect.same("9 cell", t.cellOf(0), cell + dx[i] + 8 * dy[i]);
      Expect.same("27 costs 1", t.steps(), 14 - i);
    }
    t.setGround(4, 3, '~');
    t.step(1, 0);
    Expect.same("27 rough costs 2", t.steps(), 5);
    t.step(-1, 0);
    Expect.same("27 out of it 1", t.steps(), 4);
    t.afflict(0, 'p', 0, 0, 0);
    t.step(0, 1);
    Expect.same("27 prone costs 1 more", t.steps(), 2);
    t.setGround(3, 5, '~');
    Expect.refuses("30 too few", CAN_NOT, () -> t.step(0, 1));
    t.step(0, -1);
    Expect.same("27 none", t.steps(), 0);
    Expect.refuses("30 none", CAN_NOT, () -> t.step(0, -1));
  }

  private static void stepRefused() {
    HeroTable t = new HeroTable();
    t.addHero(0, 40, 20, 0, 0);
    t.addHero(0, 40, 10, 1, 0);
    Expect.refuses("30 dx first", BAD, () -> t.step(2, 0));
    Expect.refuses("30 no turn", STATE, () -> t.step(1, 0));
    t.begin();
    Expect.refuses("30 dx -2", BAD, () -> t.step(-2, 0));
    Expect.refuses("30 dy 2", BAD, () -> t.step(0, 2));
    Expect.refuses("30 dy -2", BAD, () -> t.step(0, -2));
    Expect.refuses("30 dy far", BAD, () -> t.step(0, Integer.MIN_VALUE));
    Expect.refuses("30 both 0", BAD, () -> t.step(0, 0));
    Expect.refuses("30 no cell", CAN_NOT, () -> t.step(-1, 0));
    Expect.refuses("30 no row", CAN_NOT, () -> t.step(0, -1));
    Expect.refuses("30 a hero there", CAN_NOT, () -> t.step(1, 0));
    t.setGround(0, 1, '#');
    Expect.refuses("30 a wall", CAN_NOT, () -> t.step(0, 1));
    t.afflict(0, 's', 0, 1, 1);
    Expect.refuses("30 stunned", CAN_NOT, () -> t.step(1, 1));
    Expect.same("9 did not go", t.cellOf(0), 0);
    Expect.same("27 costs nothing", t.steps(), 4);
  }

  private static void stepReactions() {
    HeroTable t = new HeroTable();
    t.addHero(1, 40, 30, 3, 1);
    t.addHero(1, 40, 25, 3, 2);
    t.addHero(1, 40, 24, 2, 3);
    t.addHero(0, 40, 20, 3, 3);
    t.addHero(1, 40, 15, 7, 7);
    t.addHero(0, 10, 10, 1, 2);
    t.begin();
    for (int i = 0; i < 5; i++) {
      t.ready('m', 's');
      t.endTurn();
    }
    tell(t, 8, 20, 20);
    Expect.no("30 comes down", t.step(1, 0));
    Expect.same("9 is there all the same", t.cellOf(5), 18);
    Expect.same("7 two attacks", t.lifeOf(5), 0);
    Expect.same("21 two dice", t.dice(), 1);
    Expect.no("28 both are gone", t.canReact(0) || t.canReact(1));
    Expect.yes("28 who was near before is ready", t.canReact(2));
    Expect.yes("28 who is of the own side is ready", t.canReact(3));
    Expect.yes("28 who is far is ready", t.canReact(4));
    HeroTable other = duel();
    other.setBase(1, 's', 9);
    other.ready('m', 's');
    other.endTurn();
    Expect.yes("30 away", other.step(1, 0));
    other.afflict(0, 's', 0, 0, 0);
    Expect.yes("30 to one who is stunned", other.step(-1, 0));
    Expect.yes("28 who has not reacted", other.canReact(0));
    other.endSource(0);
    other.step(1, 0);
    Expect.yes("30 to one who is not", other.step(-1, 0));
    Expect.no("28 who has", other.canReact(0));
    Expect.same("7 struck", other.lifeOf(1), 35);
    // Up from (2, 3) to (2, 2): near (1, 1) now, and not before.
    HeroTable up = new HeroTable();
    up.addHero(0, 40, 20, 1, 1);
    up.addHero(1, 40, 10, 2, 3);
    up.begin();
    up.ready('m', 's');
    up.endTurn();
    up.step(0, -1);
    Expect.same("7 struck from above", up.lifeOf(1), 35);
    Expect.no("28 has reacted", up.canReact(0));
  }

  private static void stand() {
    HeroTable t = duel();
    Expect.no("31 was not prone", t.stand());
    Expect.same("27 costs all the same", t.steps(), 2);
    t.afflict(0, 'p', 0, 0, 0);
    t.afflict(0, 'p', 9, 3, 0);
    t.afflict(1, 'p', 0, 0, 0);
    Expect.yes("31 was prone", t.stand());
    Expect.no("31 all its sources", t.isLive(0) || t.isLive(1));
    Expect.yes("31 not of the other", t.isLive(2));
    Expect.no("18 not prone", t.has(0, 'p'));
    Expect.refuses("31 too few steps", CAN_NOT, () -> t.stand());
    t.endTurn();
    t.step(1, 0);
    t.step(1, 0);
    Expect.refuses("31 fewer than 2", CAN_NOT, () -> t.stand());
    t.endTurn();
    t.afflict(0, 'h', 0, 0, 0);
    Expect.refuses("31 stunned", CAN_NOT, () -> t.stand());
    t.rest();
    Expect.refuses("31 no turn", STATE, () -> t.stand());
  }

  private static void ready() {
    HeroTable t = new HeroTable();
    t.addHero(0, 40, 30, 0, 0);
    t.addHero(0, 40, 25, 0, 5);
    t.addHero(1, 40, 20, 5, 5);
    t.addHero(0, 40, 10, 5, 0);
    t.begin();
    Expect.no("32 nobody else", t.ready('a', 'g'));
    t.endTurn();
    Expect.yes("32 another of the side", t.ready('a', 's'));
    t.endTurn();
    Expect.no("32 of the other side", t.ready('a', 's'));
    t.endTurn();
    Expect.no("32 for another trigger", t.ready('c', 'x'));
    t.endTurn();
    Expect.yes("32 it itself does not count", t.ready('c', 's'));
    t.endTurn();
    Expect.no("32 steps", t.ready('m', 's'));
  }

  private static void readyRefused() {
    HeroTable t = duel();
    char[] signs = {'a', 'm', 'c', 'g', 's', 'x', 'q', ' '};
    for (char trigger : signs) {
      for (char reaction : signs) {
        String both = "" + trigger + reaction;
        if (!"ag as ms cx cs".contains(both)) {
          Expect.refuses("32 " + both, BAD, () -> t.ready(trigger, reaction));
        }
      }
    }
    t.afflict(0, 's', 0, 0, 0);
    Expect.refuses("32 stunned", CAN_NOT, () -> t.ready('a', 'g'));
    t.endSource(0);
    t.ready('a', 'g');
    Expect.refuses("32 used", CAN_NOT, () -> t.ready('a', 'g'));
    Expect.refuses("32 sign first", BAD, () -> t.ready('a', 'x'));
    t.rest();
    Expect.refuses("32 no turn", STATE, () -> t.ready('a', 'g'));
    Expect.refuses("32 sign before turn", BAD, () -> t.ready('m', 'x'));
  }

  private static void castRefused() {
    HeroTable t = duel();
    Expect.refuses("33 no spell", BAD, () -> t.cast('x', 1, 1));
    Expect.refuses("33 no column", BAD, () -> t.cast('f', 8, 1));
    Expect.refuses("33 no row", BAD, () -> t.cast('b', 1, -1));
    t.setGround(1, 2, '#');
    Expect.refuses("33 not seen", CAN_NOT, () -> t.cast('h', 1, 3));
    t.afflict(0, 'b', 0, 1, 1);
    Expect.refuses("33 blind", CAN_NOT, () -> t.cast('f', 1, 1));
    Expect.same("33 not for s", t.cast('s', -9, 99), 'd');
    Expect.refuses("33 used", CAN_NOT, () -> t.cast('s', 1, 1));
    nextRound(t);
    t.afflict(0, 'h', 0, 0, 0);
    Expect.refuses("33 stunned", CAN_NOT, () -> t.cast('s', 1, 1));
    t.endSource(t.sources() - 1);
    t.cast('s', 0, 0);
    nextRound(t);
    Expect.same("33 the third", t.cast('f', 7, 7), 'd');
    nextRound(t);
    Expect.same("34 no slots", t.slots(0), 0);
    Expect.refuses("33 no slot", CAN_NOT, () -> t.cast('s', 1, 1));
    t.rest();
    Expect.refuses("33 no turn", STATE, () -> t.cast('s', 1, 1));
    Expect.refuses("33 spell before turn", BAD, () -> t.cast('q', 1, 1));
    Expect.refuses("34 no hero", NO_INDEX, () -> t.slots(2));
    Expect.refuses("34 -1", NO_INDEX, () -> t.slots(-1));
    Expect.refuses("35 no hero", NO_INDEX, () -> t.minds(2));
    Expect.refuses("35 -1", NO_INDEX, () -> t.minds(-1));
  }

  private static void bless() {
    HeroTable t = new HeroTable();
    t.addHero(0, 40, 20, 1, 1);
    t.addHero(0, 40, 15, 3, 3);
    t.addHero(0, 40, 12, 4, 1);
    t.addHero(1, 40, 10, 2, 1);
    t.begin();
    Expect.same("33 done", t.cast('b', 1, 1), 'd');
    Expect.same("33 itself", t.numberOf(0, 't'), 5);
    Expect.same("33 at the distance 2", t.numberOf(1, 't'), 5);
    Expect.same("33 too far", t.numberOf(2, 't'), 4);
    Expect.same("33 the other side", t.numberOf(3, 't'), 4);
    Expect.same("19 a source each", t.sources(), 2);
    Expect.yes("35 minded", t.minds(0));
    Expect.same("34 a slot", t.slots(0), 2);
    t.addSource(1, 't', 'o', 1, 0, 0);
    Expect.same("33 of the type o", t.numberOf(1, 't'), 5);
    nextRound(t);
    Expect.same("33 done, whomever it reaches", t.cast('b', 7, 7), 'd');
    Expect.no("35 none of its sources", t.minds(0));
    Expect.same("33 the one before ended", t.numberOf(0, 't'), 4);
  }

  private static void burn() {
    HeroTable t = new HeroTable();
    t.addHero(0, 40, 20, 1, 1);
    t.addHero(1, 40, 15, 2, 2);
    t.addHero(1, 40, 10, 4, 4);
    t.addHero(0, 40, 5, 3, 3);
    t.begin();
    tell(t, 9, 10, 20);
    Expect.same("33 done", t.cast('f', 2, 2), 'd');
    Expect.same("7 11 is less", t.lifeOf(0), 34);
    Expect.same("7 12 is not", t.lifeOf(1), 37);
    Expect.same("7 too far", t.lifeOf(2), 40);
    Expect.same("7 the own side", t.lifeOf(3), 37);
    Expect.same("33 nothing left", t.sources(), 0);
    Expect.no("35 not minded", t.minds(0));
    Expect.same("38 all", t.harmDone(), 12L);
    nextRound(t);
    Expect.same("33 nobody there", t.cast('f', 7, 0), 'd');
    Expect.same("34 slots", t.slots(0), 1);
  }

  private static void hold() {
    HeroTable t = duel();
    tell(t, 9);
    Expect.same("33 done", t.cast('h', 2, 1), 'd');
    Expect.yes("18 held", t.has(1, 'h'));
    Expect.yes("35 minded", t.minds(0));
    t.endTurn();
    tell(t, 9);
    t.endTurn();
    Expect.yes("33 the difficulty 12", t.has(1, 'h'));
    t.endTurn();
    t.endTurn();
    Expect.no("33 12 is not less", t.has(1, 'h'));
    Expect.no("35 its one source ended", t.minds(0));
    tell(t, 10);
    Expect.same("33 by a check of 12 nothing", t.cast('h', 2, 1), 'n');
    Expect.same("34 a slot all the same", t.slots(0), 1);
    nextRound(t);
    tell(t, 1);
    Expect.same("33 none of the other side", t.cast('h', 1, 1), 'n');
    Expect.same("21 no check", t.dice(), 1);
    t.rest();
    t.begin();
    Expect.same("33 an empty cell", t.cast('h', 5, 5), 'n');
  }

  private static void shield() {
    HeroTable t = duel();
    t.cast('s', 99, 99);
    Expect.same("33 better by 4", t.numberOf(0, 'a'), 16);
    Expect.no("35 not minded", t.minds(0));
    t.addSource(0, 'a', 's', 3, 0, 0);
    Expect.same("33 of the type s", t.numberOf(0, 'a'), 16);
    t.endTurn();
    Expect.same("33 in the other's turn", t.numberOf(0, 'a'), 16);
    t.endTurn();
    Expect.same("33 for 1 round", t.numberOf(0, 'a'), 15);
  }

  private static void undone() {
    HeroTable t = new HeroTable();
    t.addHero(1, 40, 30, 5, 5);
    t.addHero(1, 40, 25, 6, 5);
    t.addHero(0, 40, 20, 1, 1);
    t.begin();
    t.endTurn();
    t.endTurn();
    Expect.same("33 blesses", t.cast('b', 1, 1), 'd');
    t.endTurn();
    t.ready('c', 'x');
    t.endTurn();
    t.ready('c', 'x');
    t.endTurn();
    tell(t, 10, 3);
    Expect.same("33 undone by 12", t.cast('b', 1, 1), 'u');
    Expect.same("34 no slot used", t.slots(2), 2);
    Expect.same("21 the second one checks too", t.dice(), 0);
    Expect.no("28 gone", t.canReact(0) || t.canReact(1));
    Expect.yes("35 the one before is minded", t.minds(2) && t.isLive(0));
    Expect.same("33 leaves nothing", t.sources(), 1);
    Expect.refuses("33 action used", CAN_NOT, () -> t.cast('s', 1, 1));
    t.endTurn();
    t.ready('c', 'x');
    t.endTurn();
    t.ready('c', 'x');
    t.endTurn();
    t.afflict(0, 'b', 0, 0, 0);
    tell(t, 9, 20);
    Expect.same("33 11 does not, nor who is blind", t.cast('s', 0, 0), 'd');
    Expect.no("28 gone of the blind one too", t.canReact(0));
    Expect.same("21 one check", t.dice(), 1);
  }

  private static void strikesAtSpells() {
    HeroTable t = new HeroTable();
    t.addHero(1, 40, 30, 2, 1);
    t.addHero(1, 40, 25, 6, 5);
    t.addHero(0, 6, 20, 1, 1);
    t.begin();
    t.ready('c', 's');
    t.endTurn();
    t.ready('c', 's');
    t.endTurn();
    tell(t, 8);
    Expect.same("33 done", t.cast('s', 1, 1), 'd');
    Expect.same("7 struck by the near one alone", t.lifeOf(2), 1);
    Expect.no("28 both are gone", t.canReact(0) || t.canReact(1));
    t.endTurn();
    t.ready('c', 's');
    t.endTurn();
    t.endTurn();
    Expect.same("33 comes to nothing", t.cast('f', 1, 1), 'n');
    Expect.same("34 no slot used", t.slots(2), 2);
    Expect.yes("18 down", t.has(2, 'd'));
    Expect.same("7 nobody burns", t.lifeOf(0), 40);
  }

  private static void minding() {
    HeroTable t = duel();
    t.cast('b', 1, 1);
    t.endTurn();
    tell(t, 8, 8);
    t.attack(0);
    Expect.yes("35 10 is enough", t.minds(0));
    nextRound(t);
    t.setSpare(0, 50);
    t.endTurn();
    tell(t, 8, 7);
    t.attack(0);
    Expect.no("35 9 is not, wherever it was taken", t.minds(0));
    Expect.same("16 attack", t.numberOf(0, 't'), 4);
    t.endTurn();
    t.cast('b', 1, 1);
    t.setBase(1, 'd', 27);
    t.endTurn();
    tell(t, 8, 11);
    t.attack(0);
    Expect.yes("35 13 is half of 27, rounded down", t.minds(0));
    t.endTurn();
    t.setBase(1, 'd', 28);
    t.setSpare(0, 50);
    t.endTurn();
    tell(t, 8, 11);
    t.attack(0);
    Expect.no("35 13 is less than half of 28", t.minds(0));
    t.endTurn();
    t.cast('b', 1, 1);
    t.setBase(1, 'd', 1);
    t.endTurn();
    tell(t, 8, 8);
    t.attack(0);
    Expect.same("35 a check for 1", t.dice(), 0);
    Expect.yes("35 minds on behind it", t.minds(0));
    t.setBase(1, 'd', 0);
    t.endTurn();
    t.endTurn();
    tell(t, 8, 1);
    Expect.same("29 no harm", t.attack(0), 0);
    Expect.same("35 no check", t.dice(), 1);
    Expect.yes("35 minds on", t.minds(0));
    t.setBase(1, 'd', 40);
    t.setSpare(0, 0);
    t.endTurn();
    t.endTurn();
    tell(t, 20, 20);
    t.attack(0);
    Expect.yes("29 by 1 it misses", t.minds(0));
    t.endTurn();
    t.endTurn();
    t.attack(0);
    Expect.yes("18 down", t.has(0, 'd'));
    Expect.no("35 being down ends it", t.minds(0));
    Expect.yes("41 sound", t.isSound());
  }

  private static void mindsAnother() {
    HeroTable t = duel();
    t.cast('b', 1, 1);
    nextRound(t);
    t.cast('s', 0, 0);
    Expect.yes("35 s ends nothing", t.minds(0));
    nextRound(t);
    tell(t, 20);
    Expect.same("33 holds nobody", t.cast('h', 2, 1), 'n');
    Expect.no("35 ends the one before, whatever comes of it", t.minds(0));
    Expect.no("15 its source", t.isLive(0));
    t.rest();
    t.begin();
    t.cast('b', 1, 1);
    t.endSource(t.sources() - 1);
    Expect.no("35 its last source ended", t.minds(0));
  }
}
