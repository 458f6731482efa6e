import java.util.NoSuchElementException;

/**
 * Promise by promise: the least and the greatest number that is taken, the next ones beyond, nothing
 * there yet, and everything full.
 */
public final class EdgesTest {
  private static final Class<IndexOutOfBoundsException> NO_INDEX = IndexOutOfBoundsException.class;
  private static final Class<IllegalArgumentException> BAD = IllegalArgumentException.class;
  private static final Class<IllegalStateException> STATE = IllegalStateException.class;
  private static final Class<UnsupportedOperationException> CAN_NOT =
      UnsupportedOperationException.class;
  private static final Class<NoSuchElementException> NONE = NoSuchElementException.class;
  private static final Class<ArithmeticException> NO_SHARE = ArithmeticException.class;

  private static final String NUMBERS = "atdsw";
  private static final String CONDITIONS = "psbihd";
  private static final String TYPES = "umsop=";

  /** A call that names a hero. */
  private interface OfHero {
    Object make(HeroTable table, int hero);
  }

  public static void main(String[] args) {
    newObject();
    addHero();
    addHeroWhenFull();
    addHeroWhenATurnIsOn();
    addHeroWhereNoneCanBe();
    setGround();
    setGroundWhereAHeroIs();
    setBase();
    setSpare();
    heal();
    lifeSpareAndCell();
    sees();
    addSource();
    sixtySources();
    afflict();
    endSource();
    setImmune();
    isLive();
    numbers();
    has();
    sources();
    tellDie();
    dice();
    begin();
    endTurn();
    rest();
    turnRoundAndSteps();
    canReact();
    attack();
    step();
    stand();
    ready();
    cast();
    slots();
    minds();
    kept();
    again();
    harmDone();
    hitShare();
    meanLife();
    isSound();
    Expect.finish("EdgesTest");
  }

  /** That many heroes, far from each other, of side 0 and 1 in turn. */
  private static HeroTable heroes(int count) {
    HeroTable t = new HeroTable();
    for (int i = 0; i < count; i++) {
      t.addHero(i % 2, 40, 20 - i, 7 * (i % 2), i);
    }
    return t;
  }

  /** Hero 0 of side 0, who is first, at (1, 1); hero 1 of side 1 at (2, 1). */
  private static HeroTable pair() {
    HeroTable t = new HeroTable();
    t.addHero(0, 40, 20, 1, 1);
    t.addHero(1, 40, 10, 2, 1);
    return t;
  }

  private static HeroTable duel() {
    HeroTable t = pair();
    t.begin();
    return t;
  }

  private static void tell(HeroTable t, int... dice) {
    for (int die : dice) {
      t.tellDie(die);
    }
  }

  private static void nextRound(HeroTable t) {
    t.endTurn();
    t.endTurn();
  }

  /** The heroes that are there are taken, from none of them to six; the next ones beyond are not. */
  private static void heroIndex(String what, OfHero call) {
    for (int v : new int[] {-1, 0, 1, Integer.MIN_VALUE, Integer.MAX_VALUE}) {
      Expect.refuses(what + " no heroes yet, " + v, NO_INDEX, () -> call.make(heroes(0), v));
    }
    for (int count : new int[] {1, 2, 6}) {
      String all = what + " hero of " + count;
      Expect.range(all, NO_INDEX, 0, count - 1, v -> call.make(heroes(count), v));
    }
  }

  // ---- heroes and cells

  private static void newObject() {
    HeroTable t = new HeroTable();
    Expect.same("1 sources", t.sources(), 0);
    Expect.same("1 dice", t.dice(), 0);
    Expect.same("1 round", t.round(), 0);
    Expect.same("1 kept", t.kept(), 0);
    Expect.same("1 harm", t.harmDone(), 0L);
    Expect.yes("1 sound", t.isSound());
    Expect.refuses("1 no share", NO_SHARE, () -> t.hitShare());
    Expect.refuses("1 no mean", NO_SHARE, () -> t.meanLife());
    Expect.refuses("1 nobody begins", NONE, () -> t.begin());
    Expect.refuses("1 no turn", NONE, () -> t.turn());
    Expect.refuses("1 no steps", NONE, () -> t.steps());
    Expect.refuses("1 no turn to end", STATE, () -> t.endTurn());
    Expect.refuses("1 no fight to end", STATE, () -> t.rest());
    Expect.refuses("1 no turn to stand in", STATE, () -> t.stand());
    Expect.refuses("1 no turn to step in", STATE, () -> t.step(1, 1));
    Expect.refuses("1 no turn to ready in", STATE, () -> t.ready('a', 'g'));
    Expect.refuses("1 no turn to cast in", STATE, () -> t.cast('s', 0, 0));
    Expect.refuses("1 nobody to attack", NO_INDEX, () -> t.attack(0));
    Expect.refuses("1 nothing to play again", NO_INDEX, () -> t.again(0, 1, 0));
    Expect.refuses("1 no source to end", NO_INDEX, () -> t.endSource(0));
    Expect.refuses("1 no source to be live", NO_INDEX, () -> t.isLive(0));
    Expect.same("1 still nothing kept", t.kept(), 0);
  }

  private static void addHero() {
    Expect.range("2 side", BAD, 0, 1, v -> new HeroTable().addHero(v, 5, 5, 0, 0));
    Expect.range("2 life", BAD, 1, 99, v -> new HeroTable().addHero(0, v, 5, 0, 0));
    Expect.range("2 initiative", BAD, 0, 30, v -> new HeroTable().addHero(0, 5, v, 0, 0));
    Expect.range("2 column", BAD, 0, 7, v -> new HeroTable().addHero(0, 5, 5, v, 0));
    Expect.range("2 row", BAD, 0, 7, v -> new HeroTable().addHero(0, 5, 5, 0, v));
    HeroTable t = new HeroTable();
    t.addHero(0, 1, 0, 0, 7);
    t.addHero(1, 99, 30, 7, 0);
    Expect.same("2 least life", t.lifeOf(0), 1);
    Expect.same("2 greatest life", t.lifeOf(1), 99);
    Expect.same("2 its greatest one is alike, least", t.heal(0, 99), 1);
    Expect.same("2 its greatest one is alike, greatest", t.heal(1, 1), 99);
    Expect.same("2 least column, greatest row", t.cellOf(0), 56);
    Expect.same("2 greatest column, least row", t.cellOf(1), 7);
    Expect.same("2 the greatest initiative is first", t.begin(), 1);
    Expect.same("2 the least is last", t.endTurn(), 0);
  }

  private static void addHeroWhenFull() {
    HeroTable t = new HeroTable();
    for (int i = 0; i < 6; i++) {
      Expect.same("2 number " + i, t.addHero(0, 5, 5, i, 0), i);
    }
    Expect.refuses("2 the seventh", STATE, () -> t.addHero(0, 5, 5, 6, 0));
    Expect.refuses("2 the seventh, and out of range", BAD, () -> t.addHero(0, 5, 5, 8, 0));
    Expect.refuses("2 the seventh, where one is", STATE, () -> t.addHero(0, 5, 5, 5, 0));
    Expect.same("2 six are there", t.lifeOf(5), 5);
    Expect.refuses("2 and no seventh", NO_INDEX, () -> t.lifeOf(6));
    Expect.same("2 six calls kept", t.kept(), 6);
  }

  private static void addHeroWhenATurnIsOn() {
    HeroTable t = heroes(1);
    t.begin();
    Expect.refuses("2 a turn is on", STATE, () -> t.addHero(0, 5, 5, 5, 5));
    t.endTurn();
    Expect.refuses("2 the next turn is on", STATE, () -> t.addHero(0, 5, 5, 5, 5));
    Expect.refuses("2 a turn is on, and out of range", BAD, () -> t.addHero(0, 100, 5, 5, 5));
    Expect.refuses("2 a turn is on, and a hero there", STATE, () -> t.addHero(0, 5, 5, 0, 0));
    t.rest();
    Expect.same("2 no turn is on any more", t.addHero(0, 5, 5, 5, 5), 1);
  }

  private static void addHeroWhereNoneCanBe() {
    HeroTable t = heroes(1);
    t.setGround(3, 3, '#');
    Expect.refuses("2 a wall", CAN_NOT, () -> t.addHero(0, 5, 5, 3, 3));
    Expect.refuses("2 a wall, and out of range", BAD, () -> t.addHero(-1, 5, 5, 3, 3));
    Expect.refuses("2 a hero there", CAN_NOT, () -> t.addHero(0, 5, 5, 0, 0));
    t.setGround(3, 3, '~');
    Expect.same("2 rough", t.addHero(0, 5, 5, 3, 3), 1);
    t.begin();
    t.step(0, 1);
    t.rest();
    Expect.same("2 a cell that was left", t.addHero(0, 5, 5, 0, 0), 2);
    Expect.refuses("2 the cell it went to", CAN_NOT, () -> t.addHero(0, 5, 5, 0, 1));
  }

  private static void setGround() {
    Expect.range("3 column", BAD, 0, 7, v -> new HeroTable().setGround(v, 0, '#'));
    Expect.range("3 row", BAD, 0, 7, v -> new HeroTable().setGround(0, v, '#'));
    Expect.signs("3 ground", BAD, ".#~", c -> new HeroTable().setGround(7, 7, c));
    HeroTable t = new HeroTable();
    for (int cell = 0; cell < 64; cell++) {
      Expect.same("3 plain at first", t.setGround(cell % 8, cell / 8, '~'), '.');
    }
    for (int cell = 0; cell < 64; cell++) {
      Expect.same("3 all are rough then", t.setGround(cell % 8, cell / 8, '#'), '~');
    }
    for (int cell = 0; cell < 64; cell++) {
      Expect.same("3 all are walls then", t.setGround(cell % 8, cell / 8, '#'), '#');
    }
    Expect.refuses("3 no room is left", CAN_NOT, () -> t.addHero(0, 5, 5, 7, 7));
    for (char ground : ".#~".toCharArray()) {
      HeroTable one = new HeroTable();
      one.setGround(4, 5, ground);
      Expect.same("3 the same again", one.setGround(4, 5, ground), ground);
      Expect.same("3 the cell beside is another one", one.setGround(5, 4, ground), '.');
    }
  }

  private static void setGroundWhereAHeroIs() {
    HeroTable t = duel();
    Expect.refuses("3 a wall there", CAN_NOT, () -> t.setGround(1, 1, '#'));
    Expect.refuses("3 no ground there", BAD, () -> t.setGround(1, 1, 'g'));
    Expect.same("3 rough there", t.setGround(1, 1, '~'), '.');
    Expect.same("3 plain there", t.setGround(1, 1, '.'), '~');
    t.setBase(0, 'd', 40);
    t.attack(1);
    Expect.refuses("3 one with no life is there too", CAN_NOT, () -> t.setGround(2, 1, '#'));
    t.step(-1, 0);
    Expect.same("3 a wall where one was", t.setGround(1, 1, '#'), '.');
    Expect.refuses("3 where it is now", CAN_NOT, () -> t.setGround(0, 1, '#'));
  }

  private static void setBase() {
    heroIndex("4", (t, h) -> t.setBase(h, 'a', 1));
    Expect.signs("4 number", BAD, NUMBERS, c -> heroes(1).setBase(0, c, 1));
    int[] first = {12, 4, 5, 4, 2};
    for (int i = 0; i < 5; i++) {
      char sign = NUMBERS.charAt(i);
      Expect.range("4 " + sign, BAD, -20, 40, v -> heroes(1).setBase(0, sign, v));
      HeroTable t = heroes(2);
      Expect.same("4 the least", t.setBase(1, sign, -20), first[i]);
      Expect.same("16 the least", t.numberOf(1, sign), -20);
      Expect.same("4 the greatest", t.setBase(1, sign, 40), -20);
      Expect.same("16 the greatest", t.numberOf(1, sign), 40);
      Expect.same("4 the greatest before", t.setBase(1, sign, 0), 40);
      Expect.same("16 none", t.numberOf(1, sign), 0);
      Expect.same("16 not of the other", t.numberOf(0, sign), first[i]);
    }
  }

  private static void setSpare() {
    heroIndex("5", (t, h) -> t.setSpare(h, 1));
    Expect.range("5 life", BAD, 0, 50, v -> heroes(1).setSpare(0, v));
    HeroTable t = heroes(1);
    Expect.same("5 none at first", t.setSpare(0, 50), 0);
    Expect.same("8 the greatest", t.spareOf(0), 50);
    Expect.same("5 the greatest before", t.setSpare(0, 0), 50);
    Expect.same("8 the least", t.spareOf(0), 0);
    Expect.same("7 not of the life", t.lifeOf(0), 40);
  }

  private static void heal() {
    heroIndex("6", (t, h) -> t.heal(h, 1));
    Expect.range("6 life", BAD, 1, 99, v -> heroes(1).heal(0, v));
    HeroTable t = duel();
    t.setBase(0, 'd', 3);
    t.attack(1);
    Expect.same("6 hurt by 3", t.lifeOf(1), 37);
    Expect.same("6 to 1 less than the greatest", t.heal(1, 2), 39);
    Expect.same("6 to the greatest", t.heal(1, 1), 40);
    Expect.same("6 no more than it", t.heal(1, 1), 40);
    t.setBase(0, 'd', 40);
    nextRound(t);
    t.attack(1);
    Expect.same("6 without a life", t.lifeOf(1), 0);
    Expect.same("6 all of it", t.heal(1, 99), 40);
    Expect.same("8 nothing beside it", t.spareOf(1), 0);
  }

  private static void lifeSpareAndCell() {
    heroIndex("7", (t, h) -> t.lifeOf(h));
    heroIndex("8", (t, h) -> t.spareOf(h));
    heroIndex("9", (t, h) -> t.cellOf(h));
    HeroTable t = new HeroTable();
    int[] corners = {0, 7, 56, 63};
    for (int i = 0; i < 4; i++) {
      t.addHero(0, 5, 5, corners[i] % 8, corners[i] / 8);
      Expect.same("9 a corner", t.cellOf(i), corners[i]);
    }
  }

  private static void sees() {
    heroIndex("10", (t, h) -> t.sees(h, 0, 0));
    Expect.range("10 column", BAD, 0, 7, v -> heroes(1).sees(0, v, 0));
    Expect.range("10 row", BAD, 0, 7, v -> heroes(1).sees(0, 0, v));
    Expect.refuses("10 no hero, and no cell", NO_INDEX, () -> heroes(1).sees(1, 8, 8));
  }

  // ---- numbers and conditions

  private static void addSource() {
    heroIndex("11", (t, h) -> t.addSource(h, 'a', 'u', 1, 0, 0));
    heroIndex("11 whose", (t, h) -> t.addSource(0, 'a', 'u', 1, 0, h));
    Expect.signs("11 number", BAD, NUMBERS, c -> heroes(1).addSource(0, c, 'u', 1, 0, 0));
    Expect.signs("11 type", BAD, TYPES, c -> heroes(1).addSource(0, 'a', c, 1, 0, 0));
    for (char type : "umsop".toCharArray()) {
      String what = "11 amount of " + type;
      Expect.range(what, BAD, 1, 9, v -> heroes(1).addSource(0, 'a', type, v, 0, 0));
      for (int amount : new int[] {1, 9}) {
        HeroTable t = heroes(1);
        t.addSource(0, 'd', type, amount, 0, 0);
        Expect.same("16 by " + type, t.numberOf(0, 'd'), type == 'p' ? 5 - amount : 5 + amount);
      }
    }
    Expect.range("11 what sets", BAD, -20, 40, v -> heroes(1).addSource(0, 'a', '=', v, 0, 0));
    for (int amount : new int[] {-20, -1, 0, 10, 40}) {
      HeroTable t = heroes(1);
      t.addSource(0, 's', '=', amount, 0, 0);
      Expect.same("16 set to " + amount, t.numberOf(0, 's'), amount);
    }
    Expect.range("11 rounds", BAD, 0, 9, v -> heroes(1).addSource(0, 'a', 'u', 1, v, 0));
    lasts("11", t -> t.addSource(0, 'w', 'u', 1, 0, 0), 0);
    lasts("11", t -> t.addSource(0, 'w', 'u', 1, 1, 0), 1);
    lasts("11", t -> t.addSource(0, 'w', 'u', 1, 9, 0), 9);
  }

  /** Adds to a table. */
  private interface Adding {
    int make(HeroTable table);
  }

  /** A source lasts until that turn of hero 0 begins; with 0 rounds it lasts. */
  private static void lasts(String what, Adding adding, int rounds) {
    HeroTable t = heroes(2);
    int source = adding.make(t);
    t.begin();
    for (int turn = 1; turn <= 12; turn++) {
      boolean isDue = rounds == 0 || turn < rounds;
      Expect.same(what + " for " + rounds + ", in the turn " + turn, t.isLive(source), isDue);
      t.endTurn();
      Expect.same(what + " for " + rounds + ", behind " + turn, t.isLive(source), isDue);
      t.endTurn();
    }
  }

  private static void sixtySources() {
    HeroTable t = pair();
    for (int i = 0; i < 59; i++) {
      t.addSource(0, 'a', 'u', 1, 0, 0);
    }
    Expect.same("12 the sixtieth", t.afflict(0, 'i', 0, 0, 0), 59);
    Expect.same("19 sixty", t.sources(), 60);
    Expect.refuses("11 one more", STATE, () -> t.addSource(0, 'a', 'u', 1, 0, 0));
    Expect.refuses("12 one more", STATE, () -> t.afflict(0, 'p', 0, 0, 0));
    Expect.refuses("11 no hero first", NO_INDEX, () -> t.addSource(2, 'a', 'u', 1, 0, 0));
    Expect.refuses("11 no whose first", NO_INDEX, () -> t.addSource(0, 'a', 'u', 1, 0, 2));
    Expect.refuses("11 range first", BAD, () -> t.addSource(0, 'a', 'u', 10, 0, 0));
    Expect.refuses("12 no hero first", NO_INDEX, () -> t.afflict(2, 'p', 0, 0, 0));
    Expect.refuses("12 no whose first", NO_INDEX, () -> t.afflict(0, 'p', 0, 0, 2));
    Expect.refuses("12 range first", BAD, () -> t.afflict(0, 'p', 0, 10, 0));
    t.begin();
    t.cast('s', 0, 0);
    Expect.same("19 a spell adds its own", t.sources(), 61);
    Expect.yes("15 the sixty-first", t.isLive(60));
    Expect.refuses("11 when there were 61", STATE, () -> t.addSource(0, 'a', 'u', 1, 0, 0));
    Expect.refuses("12 when there were 61", STATE, () -> t.afflict(0, 'p', 0, 0, 0));
    nextRound(t);
    t.setBase(0, 'd', 40);
    t.attack(1);
    Expect.same("19 harm adds its own", t.sources(), 62);
    Expect.yes("18 down by it", t.has(1, 'd'));
    for (int i = 0; i < 62; i++) {
      t.endSource(i);
    }
    Expect.refuses("11 when none is live", STATE, () -> t.addSource(0, 'a', 'u', 1, 0, 0));
    HeroTable other = heroes(1);
    for (int i = 0; i < 60; i++) {
      Expect.same("12 sixty", other.afflict(0, 'p', 0, 0, 0), i);
    }
    Expect.refuses("12 full", STATE, () -> other.afflict(0, 'p', 0, 0, 0));
  }

  private static void afflict() {
    heroIndex("12", (t, h) -> t.afflict(h, 'p', 0, 0, 0));
    heroIndex("12 whose", (t, h) -> t.afflict(0, 'p', 0, 0, h));
    Expect.signs("12 condition", BAD, CONDITIONS, c -> heroes(1).afflict(0, c, 0, 0, 0));
    Expect.range("12 difficulty", BAD, 0, 30, v -> heroes(1).afflict(0, 'p', v, 0, 0));
    Expect.range("12 rounds", BAD, 0, 9, v -> heroes(1).afflict(0, 'p', 0, v, 0));
    lasts("12", t -> t.afflict(0, 'p', 0, 0, 0), 0);
    lasts("12", t -> t.afflict(0, 'p', 0, 1, 0), 1);
    lasts("12", t -> t.afflict(0, 'p', 0, 9, 0), 9);
    difficulty(0, 20, 40, true, 1);
    difficulty(1, 1, -1, true, 0);
    difficulty(1, 1, 0, false, 0);
    difficulty(30, 20, 9, true, 0);
    difficulty(30, 20, 10, false, 0);
  }

  /** Whether a source of that difficulty is live behind a check, and what dice are left. */
  private static void difficulty(int difficulty, int die, int will, boolean isLive, int left) {
    HeroTable t = heroes(1);
    t.setBase(0, 'w', will);
    t.afflict(0, 'b', difficulty, 0, 0);
    t.begin();
    t.tellDie(die);
    t.endTurn();
    String what = "23 difficulty " + difficulty + " by " + die + " and " + will;
    Expect.same(what, t.isLive(0), isLive);
    Expect.same(what + ": dice", t.dice(), left);
  }

  private static void endSource() {
    for (int v : new int[] {-1, 0, 1, Integer.MIN_VALUE, Integer.MAX_VALUE}) {
      Expect.refuses("13 no source yet, " + v, NO_INDEX, () -> heroes(1).endSource(v));
    }
    Expect.range("13 of one", NO_INDEX, 0, 0, v -> withSources(1).endSource(v));
    Expect.range("13 of sixty", NO_INDEX, 0, 59, v -> withSources(60).endSource(v));
    HeroTable t = withSources(60);
    Expect.yes("13 the first", t.endSource(0));
    Expect.yes("13 the last", t.endSource(59));
    Expect.no("13 the first again", t.endSource(0));
    Expect.no("13 the last again", t.endSource(59));
    Expect.yes("13 the one beside", t.isLive(1) && t.isLive(58));
  }

  private static HeroTable withSources(int count) {
    HeroTable t = heroes(1);
    for (int i = 0; i < count; i++) {
      t.addSource(0, 'w', 'u', 1, 0, 0);
    }
    return t;
  }

  private static void setImmune() {
    heroIndex("14", (t, h) -> t.setImmune(h, 'p', true));
    Expect.signs("14 condition", BAD, CONDITIONS, c -> heroes(1).setImmune(0, c, true));
    HeroTable t = heroes(2);
    for (char c : CONDITIONS.toCharArray()) {
      Expect.no("14 not at first", t.setImmune(0, c, false));
      Expect.no("14 still not", t.setImmune(0, c, true));
      Expect.yes("14 then", t.setImmune(0, c, true));
      Expect.no("14 not the other hero", t.setImmune(1, c, false));
    }
    for (char c : CONDITIONS.toCharArray()) {
      Expect.yes("14 to all", t.setImmune(0, c, false));
    }
  }

  private static void isLive() {
    for (int v : new int[] {-1, 0, 1, Integer.MIN_VALUE, Integer.MAX_VALUE}) {
      Expect.refuses("15 no source yet, " + v, NO_INDEX, () -> heroes(1).isLive(v));
    }
    Expect.range("15 of one", NO_INDEX, 0, 0, v -> withSources(1).isLive(v));
    Expect.range("15 of sixty", NO_INDEX, 0, 59, v -> withSources(60).isLive(v));
  }

  private static void numbers() {
    heroIndex("16", (t, h) -> t.numberOf(h, 'a'));
    heroIndex("17", (t, h) -> t.numberAnew(h, 'a'));
    Expect.signs("16 number", BAD, NUMBERS, c -> heroes(1).numberOf(0, c));
    Expect.signs("17 number", BAD, NUMBERS, c -> heroes(1).numberAnew(0, c));
    for (char sign : NUMBERS.toCharArray()) {
      Expect.same("16 the greatest of all", sixty(sign, 'u', 40).numberOf(0, sign), 580);
      Expect.same("17 the greatest of all", sixty(sign, 'u', 40).numberAnew(0, sign), 580);
      Expect.same("16 the least of all", sixty(sign, 'p', -20).numberOf(0, sign), -560);
      Expect.same("17 the least of all", sixty(sign, 'p', -20).numberAnew(0, sign), -560);
      Expect.same("16 just one of m", sixty(sign, 'm', 40).numberOf(0, sign), 49);
    }
  }

  private static HeroTable sixty(char sign, char type, int base) {
    HeroTable t = heroes(1);
    t.setBase(0, sign, base);
    for (int i = 0; i < 60; i++) {
      t.addSource(0, sign, type, 9, 0, 0);
    }
    return t;
  }

  private static void has() {
    heroIndex("18", (t, h) -> t.has(h, 'p'));
    Expect.signs("18 condition", BAD, CONDITIONS, c -> heroes(1).has(0, c));
  }

  private static void sources() {
    HeroTable t = heroes(1);
    for (int i = 0; i < 60; i++) {
      Expect.same("19 so far", t.sources(), i);
      t.addSource(0, 'w', 'u', 1, 1, 0);
    }
    Expect.outcome(() -> t.addSource(0, 'w', 'u', 1, 1, 0));
    Expect.same("19 not the one that was refused", t.sources(), 60);
    t.begin();
    Expect.same("19 those that have ended too", t.sources(), 60);
  }

  // ---- dice and turns

  private static void tellDie() {
    Expect.range("20 die", BAD, 1, 20, v -> new HeroTable().tellDie(v));
    HeroTable t = new HeroTable();
    Expect.same("20 the least", t.tellDie(1), 1);
    Expect.same("20 the greatest", t.tellDie(20), 2);
    Expect.refuses("20 0", BAD, () -> t.tellDie(0));
    Expect.same("21 not the one that was refused", t.dice(), 2);
  }

  private static void dice() {
    HeroTable t = duel();
    Expect.same("21 none", t.dice(), 0);
    tell(t, 1);
    Expect.same("21 one", t.dice(), 1);
    t.attack(1);
    Expect.same("21 used", t.dice(), 0);
    nextRound(t);
    t.attack(1);
    Expect.same("21 none is left of none", t.dice(), 0);
    Expect.same("20 one again", t.tellDie(2), 1);
    HeroTable many = new HeroTable();
    for (int i = 0; i < 511; i++) {
      many.tellDie(20);
    }
    Expect.same("21 as many as there can be", many.dice(), 511);
  }

  private static void begin() {
    Expect.refuses("22 no heroes", NONE, () -> new HeroTable().begin());
    Expect.same("22 one hero", heroes(1).begin(), 0);
    Expect.same("22 six heroes", heroes(6).begin(), 0);
    HeroTable t = heroes(1);
    t.begin();
    Expect.refuses("22 a turn is on", STATE, () -> t.begin());
    t.rest();
    Expect.same("22 none is on any more", t.begin(), 0);
    HeroTable alike = new HeroTable();
    for (int i = 0; i < 6; i++) {
      alike.addHero(0, 5, 7, i, 0);
    }
    Expect.same("22 all alike, the lowest number", alike.begin(), 0);
    for (int i = 1; i < 6; i++) {
      Expect.same("23 all alike, by number", alike.endTurn(), i);
    }
    HeroTable rising = new HeroTable();
    for (int i = 0; i < 6; i++) {
      rising.addHero(0, 5, 6 * i, i, 0);
    }
    Expect.same("22 the last is the greatest", rising.begin(), 5);
    for (int i = 4; i >= 0; i--) {
      Expect.same("23 by initiative", rising.endTurn(), i);
    }
  }

  private static void endTurn() {
    Expect.refuses("23 no turn", STATE, () -> heroes(6).endTurn());
    for (int count : new int[] {1, 2, 6}) {
      HeroTable t = heroes(count);
      t.begin();
      for (int turn = 1; turn <= 3 * count; turn++) {
        Expect.same("26 the round of " + count, t.round(), 1 + (turn - 1) / count);
        Expect.same("23 the next of " + count, t.endTurn(), turn % count);
      }
      Expect.same("26 the first again", t.round(), 4);
    }
  }

  private static void rest() {
    Expect.refuses("24 no turn", STATE, () -> heroes(6).rest());
    HeroTable t = heroes(1);
    t.begin();
    Expect.same("24 no sources", t.rest(), 0);
    Expect.refuses("24 no turn any more", STATE, () -> t.rest());
    for (int i = 0; i < 60; i++) {
      t.addSource(0, 'w', 'u', 1, 2 + i % 8, 0);
    }
    t.begin();
    Expect.same("24 all sixty", t.rest(), 60);
    t.begin();
    Expect.same("24 none of them again", t.rest(), 0);
    HeroTable lasting = withSources(60);
    lasting.begin();
    Expect.same("24 none that lasts", lasting.rest(), 0);
    HeroTable one = heroes(1);
    one.addSource(0, 'w', 'u', 1, 1, 0);
    one.afflict(0, 'p', 0, 2, 0);
    one.begin();
    Expect.same("24 not one that has ended", one.rest(), 1);
    Expect.no("24 the other has", one.isLive(1));
  }

  private static void turnRoundAndSteps() {
    HeroTable t = heroes(6);
    Expect.refuses("25 before a fight", NONE, () -> t.turn());
    Expect.refuses("27 before a fight", NONE, () -> t.steps());
    Expect.same("26 before a fight", t.round(), 0);
    int[] speeds = {-20, -1, 0, 1, 2, 40};
    for (int i = 0; i < 6; i++) {
      t.setBase(i, 's', speeds[i]);
    }
    t.begin();
    for (int i = 0; i < 6; i++) {
      Expect.same("25 whose turn", t.turn(), i);
      Expect.same("27 by a speed of " + speeds[i], t.steps(), Math.max(0, speeds[i]));
      t.endTurn();
    }
    t.setBase(0, 's', 9);
    Expect.same("27 what is left does not change", t.steps(), 0);
    t.rest();
    Expect.refuses("25 behind a fight", NONE, () -> t.turn());
    Expect.refuses("27 behind a fight", NONE, () -> t.steps());
    Expect.same("26 behind a fight", t.round(), 0);
    t.begin();
    Expect.same("26 again from 1", t.round(), 1);
    Expect.same("27 by the speed now", t.steps(), 9);
  }

  private static void canReact() {
    heroIndex("28", (t, h) -> t.canReact(h));
    HeroTable t = heroes(2);
    Expect.no("28 before a fight", t.canReact(0));
    t.begin();
    Expect.no("28 its reaction, but nothing readied", t.canReact(0));
    t.ready('c', 'x');
    Expect.yes("28 both", t.canReact(0));
    t.endTurn();
    Expect.yes("28 in the other's turn", t.canReact(0));
    Expect.no("28 the other has readied nothing", t.canReact(1));
    t.endTurn();
    Expect.no("28 what it readied is gone", t.canReact(0));
  }

  // ---- acts of the hero whose turn it is

  private static void attack() {
    heroIndexInAFight();
    Expect.refuses("29 no turn, and no hero", NO_INDEX, () -> pair().attack(2));
    Expect.refuses("29 no turn", STATE, () -> pair().attack(1));
    Expect.refuses("29 no turn, and too far", STATE, () -> heroes(2).attack(1));
    for (int cell = 0; cell < 64; cell++) {
      int x = cell % 8;
      int y = cell / 8;
      if (x == 3 && y == 4) {
        continue;
      }
      HeroTable t = new HeroTable();
      t.addHero(0, 40, 20, 3, 4);
      t.addHero(1, 40, 10, x, y);
      t.begin();
      if (x >= 2 && x <= 4 && y >= 3 && y <= 5) {
        Expect.same("29 at the distance 1, " + cell, t.attack(1), 5);
        Expect.refuses("29 the action is used", CAN_NOT, () -> t.attack(1));
      } else {
        Expect.refuses("29 too far, " + cell, CAN_NOT, () -> t.attack(1));
        Expect.no("29 the action is not used", t.ready('a', 'g'));
      }
    }
    Expect.refuses("29 itself", CAN_NOT, () -> duel().attack(0));
    HeroTable stunned = duel();
    stunned.afflict(0, 's', 0, 0, 0);
    Expect.refuses("29 stunned", CAN_NOT, () -> stunned.attack(1));
    for (int hero : new int[] {-1, 2}) {
      Expect.refuses("29 stunned, and no hero", NO_INDEX, () -> stunned.attack(hero));
    }
  }

  private static void heroIndexInAFight() {
    for (int v : new int[] {-1, 2, Integer.MIN_VALUE, Integer.MAX_VALUE}) {
      Expect.refuses("29 no hero " + v, NO_INDEX, () -> duel().attack(v));
    }
  }

  private static void step() {
    Expect.beyond("30 dx", BAD, -1, 1, v -> duel().step(v, 0));
    Expect.beyond("30 dy", BAD, -1, 1, v -> duel().step(0, v));
    Expect.beyond("30 dx with a dy", BAD, -1, 1, v -> duel().step(v, 1));
    Expect.beyond("30 dy with a dx", BAD, -1, 1, v -> duel().step(1, v));
    Expect.refuses("30 both are 0", BAD, () -> duel().step(0, 0));
    Expect.refuses("30 both are 0, and no turn", BAD, () -> pair().step(0, 0));
    Expect.refuses("30 out of range, and no turn", BAD, () -> pair().step(2, 0));
    Expect.refuses("30 no turn", STATE, () -> pair().step(0, 1));
    Expect.refuses("30 no turn, and a hero there", STATE, () -> pair().step(1, 0));
    Expect.refuses("30 a hero there", CAN_NOT, () -> duel().step(1, 0));
    for (int cell = 0; cell < 64; cell++) {
      stepsFrom(cell % 8, cell / 8);
    }
    stepCosts("plain", '.', false, 1);
    stepCosts("rough", '~', false, 2);
    stepCosts("plain, prone", '.', true, 2);
    stepCosts("rough, prone", '~', true, 3);
  }

  private static void stepsFrom(int x, int y) {
    for (int i = 0; i < 9; i++) {
      int dx = i % 3 - 1;
      int dy = i / 3 - 1;
      if (i == 4) {
        continue;
      }
      HeroTable t = new HeroTable();
      t.addHero(0, 40, 20, x, y);
      t.begin();
      boolean isCell = x + dx >= 0 && x + dx < 8 && y + dy >= 0 && y + dy < 8;
      if (!isCell) {
        Expect.refuses("30 no such cell", CAN_NOT, () -> t.step(dx, dy));
        Expect.same("9 where it was", t.cellOf(0), 8 * y + x);
        continue;
      }
      t.setGround(x + dx, y + dy, '#');
      Expect.refuses("30 a wall", CAN_NOT, () -> t.step(dx, dy));
      t.setGround(x + dx, y + dy, '.');
      Expect.yes("30 goes there", t.step(dx, dy));
      Expect.same("9 where it is", t.cellOf(0), 8 * (y + dy) + x + dx);
    }
  }

  /** A step costs so much: it can be gone with just so many steps, and not with one less. */
  private static void stepCosts(String what, char ground, boolean isProne, int cost) {
    for (int speed = 0; speed <= cost + 1; speed++) {
      HeroTable t = new HeroTable();
      t.addHero(0, 40, 20, 3, 3);
      t.setGround(4, 3, ground);
      t.setBase(0, 's', speed);
      if (isProne) {
        t.afflict(0, 'p', 0, 0, 0);
      }
      t.begin();
      if (speed < cost) {
        Expect.refuses("30 too few for " + what, CAN_NOT, () -> t.step(1, 0));
        Expect.same("27 none of them gone", t.steps(), speed);
      } else {
        Expect.yes("30 enough for " + what, t.step(1, 0));
        Expect.same("27 left of " + speed + " for " + what, t.steps(), speed - cost);
      }
    }
  }

  private static void stand() {
    Expect.refuses("31 no turn", STATE, () -> pair().stand());
    for (int speed = 0; speed <= 5; speed++) {
      HeroTable t = pair();
      t.setBase(0, 's', speed);
      t.afflict(0, 'p', 0, 0, 0);
      t.begin();
      if (speed < 2) {
        Expect.refuses("31 too few, " + speed, CAN_NOT, () -> t.stand());
        Expect.yes("31 prone still", t.has(0, 'p'));
        continue;
      }
      Expect.yes("31 enough, " + speed, t.stand());
      Expect.same("27 costs 2", t.steps(), speed - 2);
      Expect.no("31 not prone", t.has(0, 'p'));
      if (speed >= 4) {
        Expect.no("31 was not prone any more", t.stand());
        Expect.same("27 costs 2 all the same", t.steps(), speed - 4);
      }
    }
    HeroTable t = duel();
    t.afflict(0, 's', 0, 0, 0);
    Expect.refuses("31 stunned", CAN_NOT, () -> t.stand());
    t.endSource(0);
    Expect.no("31 by no source", t.stand());
  }

  private static void ready() {
    String[] known = {"ag", "as", "ms", "cx", "cs"};
    for (String both : known) {
      HeroTable t = duel();
      Expect.no("32 " + both, t.ready(both.charAt(0), both.charAt(1)));
      Expect.refuses("32 the action is used", CAN_NOT, () -> t.ready('a', 's'));
      Expect.refuses("32 no such reaction first", BAD, () -> t.ready('m', 'g'));
      HeroTable quiet = pair();
      Expect.refuses("32 no turn", STATE, () -> quiet.ready(both.charAt(0), both.charAt(1)));
    }
    Expect.signs("32 trigger to s", BAD, "amc", c -> duel().ready(c, 's'));
    Expect.signs("32 trigger to g", BAD, "a", c -> duel().ready(c, 'g'));
    Expect.signs("32 trigger to x", BAD, "c", c -> duel().ready(c, 'x'));
    Expect.signs("32 reaction to attacks", BAD, "gs", c -> duel().ready('a', c));
    Expect.signs("32 reaction to steps", BAD, "s", c -> duel().ready('m', c));
    Expect.signs("32 reaction to spells", BAD, "xs", c -> duel().ready('c', c));
    Expect.refuses("32 no such trigger, and no turn", BAD, () -> pair().ready('g', 'g'));
  }

  private static void cast() {
    Expect.signs("33 spell", BAD, "bfhs", c -> duel().cast(c, 1, 1));
    Expect.signs("33 spell without a cell", BAD, "s", c -> duel().cast(c, 8, 8));
    for (char spell : "bfh".toCharArray()) {
      Expect.range("33 column of " + spell, BAD, 0, 7, v -> duel().cast(spell, v, 1));
      Expect.range("33 row of " + spell, BAD, 0, 7, v -> duel().cast(spell, 1, v));
      Expect.refuses("33 no cell, and no turn", BAD, () -> pair().cast(spell, 1, 8));
      Expect.refuses("33 no turn", STATE, () -> pair().cast(spell, 1, 1));
      HeroTable walled = duel();
      walled.setGround(1, 2, '#');
      Expect.refuses("33 not seen", CAN_NOT, () -> walled.cast(spell, 1, 3));
      Expect.answers("33 the wall itself is seen", () -> walled.cast(spell, 1, 2));
    }
    for (int v : new int[] {-1, 8, Integer.MIN_VALUE, Integer.MAX_VALUE}) {
      Expect.same("33 no cell is of no meaning for s", duel().cast('s', v, v), 'd');
      Expect.refuses("33 no turn for s", STATE, () -> pair().cast('s', v, v));
    }
    HeroTable stunned = duel();
    stunned.afflict(0, 's', 0, 0, 0);
    Expect.refuses("33 stunned", CAN_NOT, () -> stunned.cast('s', 1, 1));
    Expect.refuses("33 stunned, and no spell", BAD, () -> stunned.cast('a', 1, 1));
    HeroTable used = duel();
    used.ready('a', 'g');
    Expect.refuses("33 the action is used", CAN_NOT, () -> used.cast('s', 1, 1));
  }

  private static void slots() {
    heroIndex("34", (t, h) -> t.slots(h));
    HeroTable t = duel();
    for (int left = 3; left > 0; left--) {
      Expect.same("34 left", t.slots(0), left);
      Expect.same("33 with " + left, t.cast('s', 0, 0), 'd');
      nextRound(t);
    }
    Expect.same("34 none", t.slots(0), 0);
    for (char spell : "bfhs".toCharArray()) {
      Expect.refuses("33 with none", CAN_NOT, () -> t.cast(spell, 1, 1));
    }
    Expect.same("34 all of the other", t.slots(1), 3);
    t.endTurn();
    t.cast('s', 0, 0);
    t.rest();
    Expect.same("34 all again", t.slots(0), 3);
    Expect.same("34 all again of the other too", t.slots(1), 3);
  }

  private static void minds() {
    heroIndex("35", (t, h) -> t.minds(h));
    HeroTable t = new HeroTable();
    for (int i = 0; i < 6; i++) {
      t.addHero(0, 40, 20 - i, i % 3, i / 3);
    }
    t.begin();
    t.cast('b', 1, 1);
    Expect.same("33 reaches six", t.sources(), 6);
    for (int i = 0; i < 6; i++) {
      Expect.yes("35 with " + (6 - i) + " sources", t.minds(0));
      t.endSource(i);
    }
    Expect.no("35 with none", t.minds(0));
    Expect.no("35 who never cast", t.minds(5));
  }

  // ---- figures

  private static void kept() {
    HeroTable t = new HeroTable();
    for (int i = 0; i < 511; i++) {
      t.tellDie(1 + i % 20);
    }
    Expect.same("36 as many as there can be", t.kept(), 511);
  }

  private static void again() {
    HeroTable t = duel();
    for (int v : new int[] {-1, 0, 1, Integer.MIN_VALUE, Integer.MAX_VALUE}) {
      Expect.refuses("37 no die told, " + v, NO_INDEX, () -> t.again(v, 1, 0));
    }
    tell(t, 10, 11, 12);
    Expect.range("37 die", NO_INDEX, 0, 2, v -> t.again(v, 1, 0));
    Expect.range("37 value", BAD, 1, 20, v -> t.again(0, v, 0));
    Expect.range("37 hero", NO_INDEX, 0, 1, v -> t.again(0, 1, v));
    Expect.refuses("37 no die, and out of range", NO_INDEX, () -> t.again(3, 21, 0));
    Expect.refuses("37 no hero, and out of range", NO_INDEX, () -> t.again(0, 0, 2));
    HeroTable nobody = new HeroTable();
    nobody.tellDie(10);
    Expect.refuses("37 no heroes", NO_INDEX, () -> nobody.again(0, 1, 0));
    t.attack(1);
    t.endTurn();
    t.attack(0);
    t.endTurn();
    t.attack(1);
    Expect.same("37 the first die as told", t.again(0, 10, 1), 30);
    Expect.same("37 the first die, the least value", t.again(0, 1, 1), 35);
    Expect.same("37 the last die, the greatest value", t.again(2, 20, 1), 25);
    Expect.same("37 the one between", t.again(1, 20, 0), 30);
    Expect.same("37 a die that is used is told all the same", t.lifeOf(1), 30);
  }

  private static void harmDone() {
    HeroTable t = duel();
    Expect.same("38 none", t.harmDone(), 0L);
    t.setBase(0, 'd', 0);
    t.attack(1);
    Expect.same("38 a hit without harm", t.harmDone(), 0L);
    t.setBase(0, 'd', 1);
    nextRound(t);
    t.attack(1);
    Expect.same("38 the least", t.harmDone(), 1L);
    t.setBase(0, 'd', 40);
    t.setSpare(1, 50);
    tell(t, 20);
    nextRound(t);
    t.attack(1);
    Expect.same("38 all beside and some of the life", t.harmDone(), 81L);
    t.setImmune(1, 'd', true);
    nextRound(t);
    t.attack(1);
    Expect.same("38 what is left of the life", t.harmDone(), 90L);
    nextRound(t);
    t.attack(1);
    Expect.same("38 no more can be taken", t.harmDone(), 90L);
  }

  private static void hitShare() {
    HeroTable t = duel();
    Expect.refuses("39 none", NO_SHARE, () -> t.hitShare());
    t.afflict(1, 'd', 0, 0, 0);
    t.attack(1);
    Expect.refuses("39 one without a die", NO_SHARE, () -> t.hitShare());
    t.endSource(0);
    tell(t, 1, 20, 1);
    nextRound(t);
    t.attack(1);
    Expect.same("39 none of one", t.hitShare(), 0f);
    nextRound(t);
    t.attack(1);
    Expect.same("39 one of two", t.hitShare(), 0.5f);
    nextRound(t);
    t.attack(1);
    Expect.same("39 one of three", t.hitShare(), 1f / 3f);
    HeroTable all = duel();
    all.attack(1);
    Expect.same("39 one of one", all.hitShare(), 1f);
  }

  private static void meanLife() {
    Expect.refuses("40 none", NO_SHARE, () -> new HeroTable().meanLife());
    HeroTable t = new HeroTable();
    int sum = 0;
    for (int i = 0; i < 6; i++) {
      t.addHero(0, 99 - i * i, 5, i, 0);
      sum += 99 - i * i;
      Expect.same("40 of " + (i + 1), t.meanLife(), (double) sum / (double) (i + 1));
    }
    HeroTable one = new HeroTable();
    one.addHero(0, 1, 5, 0, 0);
    one.addHero(1, 1, 4, 1, 1);
    one.begin();
    one.attack(1);
    Expect.same("40 with one who has none", one.meanLife(), 0.5);
  }

  private static void isSound() {
    Expect.yes("41 nothing there", new HeroTable().isSound());
    Expect.yes("41 six heroes", heroes(6).isSound());
    Expect.yes("41 sixty sources", sixty('w', 'u', 0).isSound());
    HeroTable t = duel();
    Expect.yes("41 in a fight", t.isSound());
    t.setBase(0, 'd', 40);
    t.attack(1);
    Expect.yes("41 with one who has no life", t.isSound());
    t.heal(1, 1);
    t.rest();
    Expect.yes("41 behind a fight", t.isSound());
  }
}
