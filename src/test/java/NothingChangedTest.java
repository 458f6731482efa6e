import java.util.NoSuchElementException;

/**
 * Each exception that a promise documents, for each of its causes, and the one documented first where
 * several apply. Two tables are made alike, and one of them refuses a call: both answer alike then, and
 * go on alike.
 */
public final class NothingChangedTest {
  private static final Class<IndexOutOfBoundsException> NO_INDEX = IndexOutOfBoundsException.class;
  private static final Class<IllegalArgumentException> BAD = IllegalArgumentException.class;
  private static final Class<IllegalStateException> STATE = IllegalStateException.class;
  private static final Class<UnsupportedOperationException> CAN_NOT =
      UnsupportedOperationException.class;
  private static final Class<NoSuchElementException> NONE = NoSuchElementException.class;
  private static final Class<ArithmeticException> NO_SHARE = ArithmeticException.class;

  /** Makes a table; each time one that is alike. */
  private interface Maker {
    HeroTable make();
  }

  /** A call of a table. */
  private interface Call {
    Object make(HeroTable table);
  }

  public static void main(String[] args) {
    addHero();
    setGround();
    basesAndLives();
    sees();
    addSource();
    afflict();
    endSourceAndIsLive();
    conditionsAndNumbers();
    diceAndTurns();
    attack();
    step();
    stand();
    ready();
    cast();
    figures();
    Expect.finish("NothingChangedTest");
  }

  private static void refused(
      String what, Class<? extends RuntimeException> due, Maker maker, Call call) {
    HeroTable asked = maker.make();
    HeroTable left = maker.make();
    Expect.refuses(what, due, () -> call.make(asked));
    Expect.same(what + ": nothing changed", Picture.of(asked), Picture.of(left));
    Expect.same(what + ": goes on alike", Picture.goOn(asked), Picture.goOn(left));
  }

  // ---- tables

  private static HeroTable empty() {
    HeroTable t = new HeroTable();
    t.tellDie(4);
    return t;
  }

  /** Three heroes at (1, 1), (2, 1) and (4, 1), a wall, rough ground, sources and dice; no fight. */
  private static HeroTable quiet() {
    HeroTable t = new HeroTable();
    t.addHero(0, 40, 20, 1, 1);
    t.addHero(1, 40, 15, 2, 1);
    t.addHero(0, 9, 10, 4, 1);
    t.setGround(1, 2, '#');
    t.setGround(2, 2, '~');
    t.setSpare(1, 3);
    t.addSource(0, 'a', 'm', 2, 4, 1);
    t.afflict(2, 'i', 14, 5, 0);
    for (int i = 0; i < 12; i++) {
      t.tellDie(7 + i);
    }
    return t;
  }

  /** A fight in its second round: hero 1 is ready, hero 0 minds a spell and has its turn. */
  private static HeroTable fight() {
    HeroTable t = quiet();
    t.begin();
    t.cast('b', 1, 1);
    t.endTurn();
    t.ready('a', 's');
    t.endTurn();
    t.endTurn();
    return t;
  }

  private static HeroTable full() {
    HeroTable t = quiet();
    for (int i = 3; i < 6; i++) {
      t.addHero(1, 5, 5, i, 5);
    }
    for (int i = t.sources(); i < 60; i++) {
      t.addSource(i % 6, "atdsw".charAt(i % 5), "umsop=".charAt(i % 6), 1 + i % 9, i % 10, 0);
    }
    return t;
  }

  private static HeroTable stunned() {
    HeroTable t = fight();
    t.afflict(0, 's', 0, 0, 0);
    return t;
  }

  private static HeroTable actionUsed() {
    HeroTable t = fight();
    t.ready('c', 's');
    return t;
  }

  /** Hero 0 has that many steps. */
  private static HeroTable withSteps(int steps) {
    HeroTable t = quiet();
    t.setBase(0, 's', steps);
    t.begin();
    return t;
  }

  private static HeroTable noSlots() {
    HeroTable t = fight();
    for (int i = 0; i < 2; i++) {
      t.cast('s', 0, 0);
      t.endTurn();
      t.endTurn();
      t.endTurn();
    }
    return t;
  }

  // ---- heroes and cells

  private static void addHero() {
    refused("2 side", BAD, NothingChangedTest::quiet, t -> t.addHero(2, 5, 5, 6, 6));
    refused("2 life", BAD, NothingChangedTest::quiet, t -> t.addHero(0, 0, 5, 6, 6));
    refused("2 initiative", BAD, NothingChangedTest::quiet, t -> t.addHero(0, 5, 31, 6, 6));
    refused("2 column", BAD, NothingChangedTest::quiet, t -> t.addHero(0, 5, 5, 8, 6));
    refused("2 row", BAD, NothingChangedTest::quiet, t -> t.addHero(0, 5, 5, 6, -1));
    refused("2 six", STATE, NothingChangedTest::full, t -> t.addHero(0, 5, 5, 6, 6));
    refused("2 a turn", STATE, NothingChangedTest::fight, t -> t.addHero(0, 5, 5, 6, 6));
    refused("2 wall", CAN_NOT, NothingChangedTest::quiet, t -> t.addHero(0, 5, 5, 1, 2));
    refused("2 hero", CAN_NOT, NothingChangedTest::quiet, t -> t.addHero(0, 5, 5, 4, 1));
    refused("2 range, six", BAD, NothingChangedTest::full, t -> t.addHero(0, 100, 5, 6, 6));
    refused("2 range, turn", BAD, NothingChangedTest::fight, t -> t.addHero(0, 5, -1, 6, 6));
    refused("2 range, wall", BAD, NothingChangedTest::quiet, t -> t.addHero(-1, 5, 5, 1, 2));
    refused("2 range, hero", BAD, NothingChangedTest::quiet, t -> t.addHero(-1, 5, 5, 1, 1));
    refused("2 six, wall", STATE, NothingChangedTest::full, t -> t.addHero(0, 5, 5, 1, 2));
    refused("2 six, hero", STATE, NothingChangedTest::full, t -> t.addHero(0, 5, 5, 1, 1));
    refused("2 turn, wall", STATE, NothingChangedTest::fight, t -> t.addHero(0, 5, 5, 1, 2));
    refused("2 turn, hero", STATE, NothingChangedTest::fight, t -> t.addHero(0, 5, 5, 1, 1));
    refused("2 all", BAD, NothingChangedTest::fight, t -> t.addHero(2, 0, 31, 1, 1));
  }

  private static void setGround() {
    refused("3 column", BAD, NothingChangedTest::quiet, t -> t.setGround(-1, 0, '#'));
    refused("3 row", BAD, NothingChangedTest::quiet, t -> t.setGround(0, 8, '#'));
    refused("3 ground", BAD, NothingChangedTest::quiet, t -> t.setGround(0, 0, ','));
    refused("3 hero", CAN_NOT, NothingChangedTest::quiet, t -> t.setGround(2, 1, '#'));
    refused("3 hero in a fight", CAN_NOT, NothingChangedTest::fight, t -> t.setGround(2, 1, '#'));
    refused("3 ground, hero", BAD, NothingChangedTest::quiet, t -> t.setGround(2, 1, '\0'));
  }

  private static void basesAndLives() {
    refused("4 hero", NO_INDEX, NothingChangedTest::quiet, t -> t.setBase(3, 'a', 1));
    refused("4 nobody", NO_INDEX, NothingChangedTest::empty, t -> t.setBase(0, 'a', 1));
    refused("4 number", BAD, NothingChangedTest::quiet, t -> t.setBase(0, 'p', 1));
    refused("4 value", BAD, NothingChangedTest::quiet, t -> t.setBase(0, 'a', 41));
    refused("4 hero, number", NO_INDEX, NothingChangedTest::quiet, t -> t.setBase(-1, 'p', 1));
    refused("4 hero, value", NO_INDEX, NothingChangedTest::quiet, t -> t.setBase(3, 'a', -21));
    refused("5 hero", NO_INDEX, NothingChangedTest::quiet, t -> t.setSpare(3, 1));
    refused("5 life", BAD, NothingChangedTest::quiet, t -> t.setSpare(1, 51));
    refused("5 life, -1", BAD, NothingChangedTest::quiet, t -> t.setSpare(1, -1));
    refused("5 hero, life", NO_INDEX, NothingChangedTest::quiet, t -> t.setSpare(3, 51));
    refused("6 hero", NO_INDEX, NothingChangedTest::quiet, t -> t.heal(-1, 1));
    refused("6 life", BAD, NothingChangedTest::fight, t -> t.heal(0, 0));
    refused("6 life, 100", BAD, NothingChangedTest::fight, t -> t.heal(0, 100));
    refused("6 hero, life", NO_INDEX, NothingChangedTest::quiet, t -> t.heal(3, 0));
    refused("6 who is down", BAD, NothingChangedTest::down, t -> t.heal(1, 0));
    refused("7 hero", NO_INDEX, NothingChangedTest::quiet, t -> t.lifeOf(3));
    refused("8 hero", NO_INDEX, NothingChangedTest::quiet, t -> t.spareOf(3));
    refused("9 hero", NO_INDEX, NothingChangedTest::quiet, t -> t.cellOf(3));
  }

  /** Hero 0 has struck hero 1 down. */
  private static HeroTable down() {
    HeroTable t = quiet();
    t.setBase(0, 'd', 40);
    t.setBase(0, 't', 40);
    t.setSpare(1, 0);
    t.begin();
    t.attack(1);
    return t;
  }

  private static void sees() {
    refused("10 hero", NO_INDEX, NothingChangedTest::quiet, t -> t.sees(3, 1, 1));
    refused("10 column", BAD, NothingChangedTest::quiet, t -> t.sees(0, 8, 1));
    refused("10 row", BAD, NothingChangedTest::quiet, t -> t.sees(0, 1, -1));
    refused("10 hero, cell", NO_INDEX, NothingChangedTest::quiet, t -> t.sees(3, 8, 1));
  }

  // ---- numbers and conditions

  private static void addSource() {
    Maker quiet = NothingChangedTest::quiet;
    Maker full = NothingChangedTest::full;
    refused("11 hero", NO_INDEX, quiet, t -> t.addSource(3, 'a', 'u', 1, 0, 0));
    refused("11 whose", NO_INDEX, quiet, t -> t.addSource(0, 'a', 'u', 1, 0, 3));
    refused("11 nobody", NO_INDEX, NothingChangedTest::empty,
        t -> t.addSource(0, 'a', 'u', 1, 0, 0));
    refused("11 number", BAD, quiet, t -> t.addSource(0, 'b', 'u', 1, 0, 0));
    refused("11 type", BAD, quiet, t -> t.addSource(0, 'a', 'a', 1, 0, 0));
    refused("11 amount", BAD, quiet, t -> t.addSource(0, 'a', 'u', 0, 0, 0));
    refused("11 amount to set", BAD, quiet, t -> t.addSource(0, 'a', '=', 41, 0, 0));
    refused("11 rounds", BAD, quiet, t -> t.addSource(0, 'a', 'u', 1, 10, 0));
    refused("11 sixty", STATE, full, t -> t.addSource(0, 'a', 'u', 1, 0, 0));
    refused("11 hero, number", NO_INDEX, quiet, t -> t.addSource(3, 'b', 'u', 1, 0, 0));
    refused("11 whose, type", NO_INDEX, quiet, t -> t.addSource(0, 'a', 'a', 1, 0, -1));
    refused("11 whose, amount", NO_INDEX, quiet, t -> t.addSource(0, 'a', 'u', 10, 0, 3));
    refused("11 hero, sixty", NO_INDEX, full, t -> t.addSource(6, 'a', 'u', 1, 0, 0));
    refused("11 whose, sixty", NO_INDEX, full, t -> t.addSource(0, 'a', 'u', 1, 0, 6));
    refused("11 number, sixty", BAD, full, t -> t.addSource(0, 'b', 'u', 1, 0, 0));
    refused("11 type, sixty", BAD, full, t -> t.addSource(0, 'a', 'a', 1, 0, 0));
    refused("11 amount, sixty", BAD, full, t -> t.addSource(0, 'a', 'u', 10, 0, 0));
    refused("11 rounds, sixty", BAD, full, t -> t.addSource(0, 'a', 'u', 1, -1, 0));
  }

  private static void afflict() {
    Maker quiet = NothingChangedTest::quiet;
    Maker full = NothingChangedTest::full;
    refused("12 hero", NO_INDEX, quiet, t -> t.afflict(3, 'p', 0, 0, 0));
    refused("12 whose", NO_INDEX, quiet, t -> t.afflict(0, 'p', 0, 0, 3));
    refused("12 condition", BAD, quiet, t -> t.afflict(0, 'w', 0, 0, 0));
    refused("12 difficulty", BAD, quiet, t -> t.afflict(0, 'p', 31, 0, 0));
    refused("12 rounds", BAD, quiet, t -> t.afflict(0, 'p', 0, 10, 0));
    refused("12 sixty", STATE, full, t -> t.afflict(0, 'p', 0, 0, 0));
    refused("12 hero, condition", NO_INDEX, quiet, t -> t.afflict(-1, 'w', 0, 0, 0));
    refused("12 whose, difficulty", NO_INDEX, quiet, t -> t.afflict(0, 'p', -1, 0, 3));
    refused("12 whose, rounds", NO_INDEX, quiet, t -> t.afflict(0, 'p', 0, -1, 3));
    refused("12 hero, sixty", NO_INDEX, full, t -> t.afflict(6, 'p', 0, 0, 0));
    refused("12 whose, sixty", NO_INDEX, full, t -> t.afflict(0, 'p', 0, 0, 6));
    refused("12 condition, sixty", BAD, full, t -> t.afflict(0, 'w', 0, 0, 0));
    refused("12 difficulty, sixty", BAD, full, t -> t.afflict(0, 'p', 31, 0, 0));
    refused("12 rounds, sixty", BAD, full, t -> t.afflict(0, 'p', 0, 10, 0));
  }

  private static void endSourceAndIsLive() {
    refused("13 none", NO_INDEX, NothingChangedTest::empty, t -> t.endSource(0));
    refused("13 -1", NO_INDEX, NothingChangedTest::fight, t -> t.endSource(-1));
    refused("13 behind", NO_INDEX, NothingChangedTest::quiet, t -> t.endSource(2));
    refused("13 behind sixty", NO_INDEX, NothingChangedTest::full, t -> t.endSource(60));
    refused("15 none", NO_INDEX, NothingChangedTest::empty, t -> t.isLive(0));
    refused("15 behind", NO_INDEX, NothingChangedTest::quiet, t -> t.isLive(2));
  }

  private static void conditionsAndNumbers() {
    Maker quiet = NothingChangedTest::quiet;
    refused("14 hero", NO_INDEX, quiet, t -> t.setImmune(3, 'i', true));
    refused("14 condition", BAD, quiet, t -> t.setImmune(2, 'a', true));
    refused("14 hero, condition", NO_INDEX, quiet, t -> t.setImmune(3, 'a', true));
    refused("16 hero", NO_INDEX, quiet, t -> t.numberOf(3, 'a'));
    refused("16 number", BAD, quiet, t -> t.numberOf(0, 'b'));
    refused("16 hero, number", NO_INDEX, quiet, t -> t.numberOf(3, 'b'));
    refused("17 hero", NO_INDEX, quiet, t -> t.numberAnew(3, 'a'));
    refused("17 number", BAD, quiet, t -> t.numberAnew(0, 'b'));
    refused("17 hero, number", NO_INDEX, quiet, t -> t.numberAnew(3, 'b'));
    refused("18 hero", NO_INDEX, quiet, t -> t.has(3, 'i'));
    refused("18 condition", BAD, quiet, t -> t.has(2, 'a'));
    refused("18 hero, condition", NO_INDEX, quiet, t -> t.has(3, 'a'));
  }

  // ---- dice and turns

  private static void diceAndTurns() {
    refused("20 least", BAD, NothingChangedTest::quiet, t -> t.tellDie(0));
    refused("20 greatest", BAD, NothingChangedTest::fight, t -> t.tellDie(21));
    refused("22 nobody", NONE, NothingChangedTest::empty, t -> t.begin());
    refused("22 a turn", STATE, NothingChangedTest::fight, t -> t.begin());
    refused("23 no turn", STATE, NothingChangedTest::quiet, t -> t.endTurn());
    refused("24 no turn", STATE, NothingChangedTest::quiet, t -> t.rest());
    refused("25 no turn", NONE, NothingChangedTest::quiet, t -> t.turn());
    refused("27 no turn", NONE, NothingChangedTest::quiet, t -> t.steps());
    refused("28 hero", NO_INDEX, NothingChangedTest::fight, t -> t.canReact(3));
  }

  // ---- acts of the hero whose turn it is

  private static void attack() {
    refused("29 hero", NO_INDEX, NothingChangedTest::fight, t -> t.attack(3));
    refused("29 no turn", STATE, NothingChangedTest::quiet, t -> t.attack(1));
    refused("29 action", CAN_NOT, NothingChangedTest::actionUsed, t -> t.attack(1));
    refused("29 stunned", CAN_NOT, NothingChangedTest::stunned, t -> t.attack(1));
    refused("29 far", CAN_NOT, NothingChangedTest::fight, t -> t.attack(2));
    refused("29 itself", CAN_NOT, NothingChangedTest::fight, t -> t.attack(0));
    refused("29 hero, no turn", NO_INDEX, NothingChangedTest::quiet, t -> t.attack(3));
    refused("29 hero, action", NO_INDEX, NothingChangedTest::actionUsed, t -> t.attack(-1));
    refused("29 hero, stunned", NO_INDEX, NothingChangedTest::stunned, t -> t.attack(3));
    refused("29 no turn, far", STATE, NothingChangedTest::quiet, t -> t.attack(2));
  }

  private static void step() {
    refused("30 dx", BAD, NothingChangedTest::fight, t -> t.step(2, 0));
    refused("30 dy", BAD, NothingChangedTest::fight, t -> t.step(0, -2));
    refused("30 both 0", BAD, NothingChangedTest::fight, t -> t.step(0, 0));
    refused("30 no turn", STATE, NothingChangedTest::quiet, t -> t.step(0, -1));
    refused("30 stunned", CAN_NOT, NothingChangedTest::stunned, t -> t.step(0, -1));
    refused("30 no cell", CAN_NOT, NothingChangedTest::atTheEdge, t -> t.step(0, -1));
    refused("30 wall", CAN_NOT, NothingChangedTest::fight, t -> t.step(0, 1));
    refused("30 hero", CAN_NOT, NothingChangedTest::fight, t -> t.step(1, 0));
    refused("30 no steps", CAN_NOT, () -> withSteps(0), t -> t.step(0, -1));
    refused("30 too few", CAN_NOT, () -> withSteps(1), t -> t.step(1, 1));
    refused("30 dx, no turn", BAD, NothingChangedTest::quiet, t -> t.step(-2, 0));
    refused("30 both 0, no turn", BAD, NothingChangedTest::quiet, t -> t.step(0, 0));
    refused("30 both 0, stunned", BAD, NothingChangedTest::stunned, t -> t.step(0, 0));
    refused("30 dy, no steps", BAD, () -> withSteps(0), t -> t.step(0, 2));
    refused("30 no turn, wall", STATE, NothingChangedTest::quiet, t -> t.step(0, 1));
    refused("30 no turn, hero", STATE, NothingChangedTest::quiet, t -> t.step(1, 0));
  }

  private static HeroTable atTheEdge() {
    HeroTable t = fight();
    t.step(0, -1);
    return t;
  }

  private static void stand() {
    refused("31 no turn", STATE, NothingChangedTest::quiet, t -> t.stand());
    refused("31 stunned", CAN_NOT, NothingChangedTest::stunned, t -> t.stand());
    refused("31 no steps", CAN_NOT, () -> withSteps(0), t -> t.stand());
    refused("31 one step", CAN_NOT, () -> withSteps(1), t -> t.stand());
    refused("31 prone", CAN_NOT, NothingChangedTest::proneWithOneStep, t -> t.stand());
  }

  private static HeroTable proneWithOneStep() {
    HeroTable t = withSteps(1);
    t.afflict(0, 'p', 0, 0, 0);
    return t;
  }

  private static void ready() {
    refused("32 trigger", BAD, NothingChangedTest::fight, t -> t.ready('s', 's'));
    refused("32 reaction", BAD, NothingChangedTest::fight, t -> t.ready('m', 'x'));
    refused("32 no turn", STATE, NothingChangedTest::quiet, t -> t.ready('a', 'g'));
    refused("32 action", CAN_NOT, NothingChangedTest::actionUsed, t -> t.ready('a', 'g'));
    refused("32 stunned", CAN_NOT, NothingChangedTest::stunned, t -> t.ready('a', 'g'));
    refused("32 trigger, no turn", BAD, NothingChangedTest::quiet, t -> t.ready('x', 'x'));
    refused("32 reaction, action", BAD, NothingChangedTest::actionUsed, t -> t.ready('a', 'x'));
    refused("32 reaction, stunned", BAD, NothingChangedTest::stunned, t -> t.ready('c', 'g'));
  }

  private static void cast() {
    refused("33 spell", BAD, NothingChangedTest::fight, t -> t.cast('x', 1, 1));
    refused("33 column", BAD, NothingChangedTest::fight, t -> t.cast('b', 8, 1));
    refused("33 row", BAD, NothingChangedTest::fight, t -> t.cast('h', 1, -1));
    refused("33 no turn", STATE, NothingChangedTest::quiet, t -> t.cast('s', 1, 1));
    refused("33 action", CAN_NOT, NothingChangedTest::actionUsed, t -> t.cast('f', 1, 1));
    refused("33 stunned", CAN_NOT, NothingChangedTest::stunned, t -> t.cast('f', 1, 1));
    refused("33 slot", CAN_NOT, NothingChangedTest::noSlots, t -> t.cast('f', 1, 1));
    refused("33 slot, s", CAN_NOT, NothingChangedTest::noSlots, t -> t.cast('s', 1, 1));
    refused("33 not seen", CAN_NOT, NothingChangedTest::fight, t -> t.cast('b', 1, 3));
    refused("33 blind", CAN_NOT, NothingChangedTest::blind, t -> t.cast('h', 2, 1));
    refused("33 spell, no turn", BAD, NothingChangedTest::quiet, t -> t.cast('x', 1, 1));
    refused("33 cell, no turn", BAD, NothingChangedTest::quiet, t -> t.cast('f', 8, 1));
    refused("33 spell, action", BAD, NothingChangedTest::actionUsed, t -> t.cast('g', 1, 1));
    refused("33 cell, stunned", BAD, NothingChangedTest::stunned, t -> t.cast('f', 1, 8));
    refused("33 cell, slot", BAD, NothingChangedTest::noSlots, t -> t.cast('f', -1, 1));
    refused("33 no turn, not seen", STATE, NothingChangedTest::quiet, t -> t.cast('b', 1, 3));
  }

  private static HeroTable blind() {
    HeroTable t = fight();
    t.afflict(0, 'b', 0, 2, 1);
    return t;
  }

  // ---- figures

  private static void figures() {
    refused("34 hero", NO_INDEX, NothingChangedTest::fight, t -> t.slots(3));
    refused("35 hero", NO_INDEX, NothingChangedTest::fight, t -> t.minds(3));
    refused("37 die", NO_INDEX, NothingChangedTest::fight, t -> t.again(12, 1, 0));
    refused("37 die -1", NO_INDEX, NothingChangedTest::fight, t -> t.again(-1, 1, 0));
    refused("37 hero", NO_INDEX, NothingChangedTest::fight, t -> t.again(0, 1, 3));
    refused("37 value", BAD, NothingChangedTest::fight, t -> t.again(0, 0, 0));
    refused("37 value 21", BAD, NothingChangedTest::fight, t -> t.again(0, 21, 0));
    refused("37 die, value", NO_INDEX, NothingChangedTest::fight, t -> t.again(12, 0, 0));
    refused("37 hero, value", NO_INDEX, NothingChangedTest::fight, t -> t.again(0, 21, -1));
    refused("39 none", NO_SHARE, NothingChangedTest::quiet, t -> t.hitShare());
    refused("40 none", NO_SHARE, NothingChangedTest::empty, t -> t.meanLife());
  }
}
