import java.util.NoSuchElementException;

/** Promises 20 to 28: dice and turns. */
public final class TurnsTest {
  private static final Class<IndexOutOfBoundsException> NO_INDEX = IndexOutOfBoundsException.class;
  private static final Class<IllegalArgumentException> BAD = IllegalArgumentException.class;
  private static final Class<IllegalStateException> STATE = IllegalStateException.class;
  private static final Class<NoSuchElementException> NONE = NoSuchElementException.class;

  public static void main(String[] args) {
    dice();
    order();
    noFight();
    checksAtTheEnd();
    roundsAtTheBegin();
    whatATurnGives();
    rest();
    reactionsOfTwoFights();
    Expect.finish("TurnsTest");
  }

  private static void dice() {
    HeroTable t = new HeroTable();
    Expect.same("20 one", t.tellDie(1), 1);
    Expect.same("20 two", t.tellDie(20), 2);
    Expect.refuses("20 0", BAD, () -> t.tellDie(0));
    Expect.refuses("20 21", BAD, () -> t.tellDie(21));
    Expect.same("21 left", t.dice(), 2);
    t.addHero(0, 20, 5, 0, 0);
    t.afflict(0, 'p', 22, 0, 0);
    t.afflict(0, 'b', 13, 0, 0);
    t.endSource(1);
    t.begin();
    t.endTurn();
    Expect.same("21 one used", t.dice(), 1);
    Expect.yes("20 in their order", t.isLive(0));
    t.endTurn();
    Expect.same("21 none left", t.dice(), 0);
    Expect.no("20 the second one", t.isLive(0));
    t.afflict(0, 'p', 13, 0, 0);
    t.afflict(0, 'b', 12, 0, 0);
    t.endTurn();
    Expect.yes("21 without any a die is 10, and no more", t.isLive(2));
    Expect.no("21 and no less", t.isLive(3));
    Expect.same("20 one again", t.tellDie(5), 1);
    HeroTable many = new HeroTable();
    for (int i = 1; i <= 511; i++) {
      Expect.same("20 many", many.tellDie(1 + i % 20), i);
    }
    Expect.yes("20 many are sound", many.isSound());
  }

  private static void order() {
    HeroTable t = new HeroTable();
    t.addHero(0, 5, 7, 0, 0);
    t.addHero(0, 5, 30, 1, 0);
    t.addHero(0, 5, 7, 2, 0);
    t.addHero(0, 5, 0, 3, 0);
    t.addHero(0, 5, 30, 4, 0);
    t.addHero(0, 5, 8, 5, 0);
    Expect.same("22 first", t.begin(), 1);
    Expect.same("26 first round", t.round(), 1);
    int[] next = {4, 5, 0, 2, 3};
    for (int hero : next) {
      Expect.same("23 next", t.endTurn(), hero);
      Expect.same("25 turn", t.turn(), hero);
      Expect.same("26 round", t.round(), 1);
    }
    Expect.same("23 the first again", t.endTurn(), 1);
    Expect.same("26 second round", t.round(), 2);
    Expect.refuses("22 a turn is on", STATE, () -> t.begin());
    t.rest();
    Expect.same("22 in the same order", t.begin(), 1);
    for (int hero : next) {
      Expect.same("23 in the same order", t.endTurn(), hero);
    }
  }

  private static void noFight() {
    HeroTable t = new HeroTable();
    Expect.refuses("22 no heroes", NONE, () -> t.begin());
    Expect.refuses("23 no turn", STATE, () -> t.endTurn());
    Expect.refuses("24 no turn", STATE, () -> t.rest());
    Expect.refuses("25 no turn", NONE, () -> t.turn());
    Expect.same("26 no fight", t.round(), 0);
    Expect.refuses("27 no turn", NONE, () -> t.steps());
    Expect.refuses("28 no hero", NO_INDEX, () -> t.canReact(0));
    t.addHero(0, 5, 5, 0, 0);
    t.begin();
    t.endTurn();
    Expect.same("23 alone", t.round(), 2);
    t.rest();
    Expect.refuses("23 behind the fight", STATE, () -> t.endTurn());
    Expect.refuses("24 behind the fight", STATE, () -> t.rest());
    Expect.refuses("25 behind the fight", NONE, () -> t.turn());
    Expect.same("26 behind the fight", t.round(), 0);
    Expect.refuses("27 behind the fight", NONE, () -> t.steps());
    Expect.same("22 another one", t.begin(), 0);
    Expect.same("26 round 1", t.round(), 1);
  }

  private static void checksAtTheEnd() {
    HeroTable t = new HeroTable();
    t.addHero(0, 20, 9, 0, 0);
    t.addHero(1, 20, 8, 5, 5);
    t.afflict(0, 'h', 15, 0, 0);
    t.afflict(0, 'p', 0, 0, 0);
    t.afflict(0, 'b', 15, 0, 0);
    t.afflict(1, 'b', 1, 0, 0);
    t.afflict(0, 'i', 12, 0, 0);
    t.begin();
    t.tellDie(12);
    t.tellDie(13);
    t.endTurn();
    Expect.yes("23 14 is less than 15", t.isLive(0));
    Expect.yes("23 no difficulty, no check", t.isLive(1));
    Expect.no("23 15 is not less", t.isLive(2));
    Expect.yes("23 of another hero", t.isLive(3));
    Expect.no("23 without dice 12", t.isLive(4));
    Expect.same("23 dice used", t.dice(), 0);
    t.endTurn();
    Expect.no("23 its own turn", t.isLive(3));
    t.tellDie(20);
    t.tellDie(20);
    t.endTurn();
    Expect.same("23 one check for what is live", t.dice(), 1);
  }

  private static void roundsAtTheBegin() {
    HeroTable t = new HeroTable();
    t.addHero(0, 20, 9, 0, 0);
    t.addHero(1, 20, 8, 5, 5);
    t.addSource(0, 's', 'u', 3, 2, 0);
    t.addSource(1, 's', 'p', 9, 1, 0);
    t.afflict(0, 'p', 0, 2, 1);
    t.begin();
    Expect.yes("22 one less", t.isLive(0));
    Expect.no("22 ends with none", t.isLive(1));
    Expect.same("27 speed", t.steps(), 7);
    t.endTurn();
    Expect.yes("23 one less for the other", t.isLive(2));
    Expect.same("27 the other's speed", t.steps(), 4);
    t.endTurn();
    Expect.no("23 ends before the steps", t.isLive(0));
    Expect.same("27 without it", t.steps(), 4);
    Expect.yes("23 by turns of the other", t.isLive(2));
    t.endTurn();
    Expect.no("23 ends", t.isLive(2));
  }

  private static void whatATurnGives() {
    HeroTable t = new HeroTable();
    t.addHero(0, 20, 9, 1, 1);
    t.addHero(1, 20, 8, 2, 1);
    t.setBase(1, 's', -3);
    t.begin();
    Expect.no("28 nothing readied", t.canReact(0));
    t.ready('a', 'g');
    Expect.yes("28 readied", t.canReact(0));
    Expect.no("28 no turn yet", t.canReact(1));
    t.endTurn();
    Expect.same("27 at least 0", t.steps(), 0);
    Expect.yes("28 still", t.canReact(0));
    t.endTurn();
    Expect.no("28 gone with the new turn", t.canReact(0));
    Expect.same("29 an action again", t.attack(1), 5);
    Expect.refuses("28 -1", NO_INDEX, () -> t.canReact(-1));
    Expect.refuses("28 2", NO_INDEX, () -> t.canReact(2));
  }

  private static void rest() {
    HeroTable t = new HeroTable();
    t.addHero(0, 20, 9, 1, 1);
    t.addHero(1, 20, 8, 2, 1);
    t.addSource(0, 'a', 'u', 3, 9, 0);
    t.addSource(0, 'a', 'u', 1, 0, 0);
    t.afflict(1, 'b', 30, 9, 0);
    t.addSource(0, 'a', 'u', 3, 9, 0);
    t.endSource(3);
    t.begin();
    t.cast('b', 1, 1);
    Expect.same("34 one less", t.slots(0), 2);
    t.endTurn();
    t.endTurn();
    t.cast('s', 0, 0);
    Expect.same("24 live ones that last for rounds", t.rest(), 3);
    Expect.no("24 ended", t.isLive(0));
    Expect.yes("24 lasts", t.isLive(1));
    Expect.yes("24 still minded", t.minds(0));
    Expect.same("24 slots", t.slots(0), 3);
    Expect.same("24 armour", t.numberOf(0, 'a'), 13);
  }

  private static void reactionsOfTwoFights() {
    HeroTable t = new HeroTable();
    t.addHero(0, 20, 9, 1, 1);
    t.addHero(1, 20, 8, 2, 1);
    t.begin();
    t.endTurn();
    t.ready('a', 'g');
    t.rest();
    t.begin();
    Expect.no("28 had no turn in this fight yet", t.canReact(1));
    t.tellDie(9);
    Expect.same("29 no better armour", t.attack(1), 5);
  }
}
