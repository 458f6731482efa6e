import java.util.HashSet;
import java.util.Set;

/**
 * The transcript: each call that told something is played again with each of its arguments, and a
 * replay leaves nothing behind for the next one.
 */
public final class ReplayTest {
  /** Makes a table whose lives hang on one value; its first die told is a 10. */
  private interface Maker {
    HeroTable make(int value);
  }

  /** Does something with a table. */
  private interface Deed {
    void make(HeroTable table);
  }

  public static void main(String[] args) {
    heroes();
    grounds();
    basesAndLives();
    sources();
    conditions();
    diceAndTurns();
    acts();
    spells();
    nothingIsLeft();
    noSourceIsLeft();
    eachDieAlone();
    Expect.finish("ReplayTest");
  }

  // ---- what is asked of each table

  /** The lives hang on the value, and a replay without a change comes to the same ones. */
  private static void matters(String what, Maker maker, int... values) {
    Set<String> seen = new HashSet<>();
    for (int value : values) {
      HeroTable t = maker.make(value);
      Expect.yes(what + " " + value + " matters: " + lives(t), seen.add(lives(t)));
      same(what + " " + value, t);
    }
  }

  /** As signs are told by their numbers. */
  private static void matters(String what, Maker maker, String signs) {
    matters(what, maker, signs.chars().toArray());
  }

  private static void same(String what, HeroTable t) {
    Expect.same("37 " + what, livesAgain(t, 10), lives(t));
    for (int value : new int[] {1, 20, 7}) {
      livesAgain(t, value);
      Expect.yes("41 sound behind a change: " + what, t.isSound());
      Expect.same("37 as it was: " + what, livesAgain(t, 10), lives(t));
    }
  }

  private static String lives(HeroTable t) {
    StringBuilder all = new StringBuilder();
    for (int i = 0; i < 6; i++) {
      int hero = i;
      all.append(Expect.outcome(() -> t.lifeOf(hero))).append(' ');
    }
    return all.toString();
  }

  private static String livesAgain(HeroTable t, int value) {
    StringBuilder all = new StringBuilder();
    for (int i = 0; i < 6; i++) {
      int hero = i;
      all.append(Expect.outcome(() -> t.again(0, value, hero))).append(' ');
    }
    return all.toString();
  }

  // ---- tables

  private static HeroTable empty() {
    HeroTable t = new HeroTable();
    t.tellDie(10);
    return t;
  }

  /** Two heroes of two sides at (1, 1) and (2, 1), hero 0 first. */
  private static HeroTable pair() {
    HeroTable t = empty();
    t.addHero(0, 90, 20, 1, 1);
    t.addHero(1, 90, 10, 2, 1);
    return t;
  }

  private static HeroTable duel() {
    HeroTable t = pair();
    t.begin();
    return t;
  }

  private static void tell(HeroTable t, int... dice) {
    for (int die : dice) {
      t.tellDie(die);
    }
  }

  /** Dice of which some hit, and some do not. */
  private static void varied(HeroTable t) {
    for (int i = 0; i < 40; i++) {
      t.tellDie(4 + (7 * i * i + 5 * i) % 11);
    }
  }

  /** Each one attacks the other, as often as told; who can not is passed over. */
  private static HeroTable blows(HeroTable t, int count) {
    for (int i = 0; i < count; i++) {
      Expect.outcome(() -> t.attack(1 - t.turn()));
      t.endTurn();
    }
    return t;
  }

  private static HeroTable fought(HeroTable t, int count) {
    t.begin();
    return blows(t, count);
  }

  // ---- each argument

  private static void heroes() {
    matters("side", side -> {
      HeroTable t = empty();
      t.addHero(0, 90, 20, 1, 1);
      t.addHero(side, 90, 10, 2, 1);
      t.setBase(0, 'a', 15);
      t.begin();
      t.cast('b', 1, 1);
      t.endTurn();
      t.attack(0);
      return t;
    }, 0, 1);
    matters("life", life -> {
      HeroTable t = empty();
      t.addHero(0, life, 20, 1, 1);
      return t;
    }, 1, 2, 98, 99);
    matters("initiative", initiative -> {
      HeroTable t = empty();
      t.addHero(0, 90, 15, 1, 1);
      t.addHero(1, 90, initiative, 2, 1);
      return fought(t, 1);
    }, 14, 16);
    matters("column", x -> {
      HeroTable t = empty();
      t.addHero(0, 90, 20, 0, 7);
      t.addHero(1, 90, 15, x, 1);
      t.begin();
      t.cast('f', 3, 1);
      return t;
    }, 1, 2);
    matters("row", y -> {
      HeroTable t = empty();
      t.addHero(0, 90, 20, 7, 0);
      t.addHero(1, 90, 15, 1, y);
      t.begin();
      t.cast('f', 1, 3);
      return t;
    }, 1, 2);
  }

  /** Hero 1 at (6, 1) undoes what hero 0 at (1, 1) casts, if it sees it. */
  private static HeroTable watched(int wallX, int wallY, char ground) {
    HeroTable t = empty();
    t.addHero(0, 90, 10, 1, 1);
    t.addHero(1, 90, 20, 6, 1);
    t.setGround(wallX, wallY, ground);
    t.begin();
    t.ready('c', 'x');
    t.endTurn();
    t.cast('f', 1, 1);
    return t;
  }

  private static void grounds() {
    matters("column of a wall", x -> watched(x, 1, '#'), 7, 5);
    matters("row of a wall", y -> watched(4, y, '#'), 2, 1);
    matters("ground", ground -> watched(4, 1, (char) ground), ".#");
    same("rough", watched(4, 1, '~'));
  }

  private static void basesAndLives() {
    matters("hero of a base", hero -> {
      HeroTable t = pair();
      t.setBase(hero, 'd', 9);
      return fought(t, 2);
    }, 0, 1);
    matters("number of a base", number -> {
      HeroTable t = pair();
      t.setBase(0, (char) number, 9);
      t.setBase(1, (char) number, 1);
      tell(t, 10, 7, 1, 5, 5);
      fought(t, 4);
      t.cast('f', 1, 1);
      return t;
    }, "atdw");
    matters("value of a base", value -> {
      HeroTable t = pair();
      t.setBase(0, 'd', value);
      return fought(t, 1);
    }, 0, 1, 39, 40);
    matters("speed", value -> {
      HeroTable t = pair();
      t.setBase(0, 's', value);
      t.begin();
      Expect.outcome(() -> t.step(-1, 0));
      Expect.outcome(() -> t.attack(1));
      return t;
    }, 0, 1);
    matters("hero with a spare", hero -> {
      HeroTable t = pair();
      t.setSpare(hero, 3);
      return fought(t, 2);
    }, 0, 1);
    matters("spare", life -> {
      HeroTable t = pair();
      t.setBase(0, 'd', 40);
      t.setSpare(1, life);
      return fought(t, 3);
    }, 0, 1, 49, 50);
    matters("hero healed", hero -> {
      HeroTable t = fought(pair(), 2);
      t.heal(hero, 2);
      return t;
    }, 0, 1);
    matters("healed", life -> {
      HeroTable t = fought(pair(), 2);
      t.heal(1, life);
      return t;
    }, 1, 2, 4, 5);
  }

  private static HeroTable withSource(int hero, char number, char type, int amount, int rounds,
      int whose) {
    HeroTable t = pair();
    t.addSource(0, 'd', 'm', 2, 0, 0);
    t.addSource(1, 'd', 'm', 2, 0, 0);
    t.addSource(1, 'd', 's', 4, 0, 1);
    t.addSource(1, 'd', 'o', 3, 0, 1);
    t.addSource(hero, number, type, amount, rounds, whose);
    tell(t, 8, 8, 7, 7, 9, 9, 8, 8);
    return fought(t, 8);
  }

  private static void sources() {
    matters("hero of a source", hero -> withSource(hero, 'd', 'u', 3, 0, 0), 0, 1);
    matters("number of a source", n -> withSource(1, (char) n, 'u', 3, 0, 0), "atds");
    matters("type of a source", type -> withSource(1, 'd', (char) type, 6, 0, 0), "umsop=");
    matters("amount of a source", amount -> withSource(0, 'd', 'u', amount, 0, 0), 1, 2, 8, 9);
    matters("what a source sets", amount -> withSource(0, 'd', '=', amount, 0, 0), -2, -1, 0, 9);
    matters("rounds of a source", rounds -> withSource(0, 'd', 'u', 4, rounds, 0), 0, 1, 2, 3);
    matters("whose a source is", whose -> withSource(0, 'd', 'u', 4, 2, whose), 0, 1);
    matters("source that ends", source -> {
      HeroTable t = pair();
      t.addSource(0, 'd', 'u', 1, 0, 0);
      t.addSource(0, 'd', 'u', 3, 0, 0);
      t.addSource(1, 'd', 'u', 1, 0, 0);
      t.endSource(source);
      return fought(t, 2);
    }, 0, 1, 2);
  }

  private static HeroTable withCondition(int hero, char condition, int difficulty, int rounds,
      int whose) {
    HeroTable t = pair();
    t.afflict(hero, condition, difficulty, rounds, whose);
    varied(t);
    return fought(t, 8);
  }

  private static HeroTable immune(int hero, char condition, boolean isImmune) {
    HeroTable t = pair();
    t.setImmune(0, 'p', true);
    t.setImmune(1, 'p', true);
    t.afflict(0, 'p', 0, 0, 0);
    t.afflict(1, 'p', 0, 0, 0);
    t.afflict(1, 'i', 0, 0, 0);
    t.setImmune(hero, condition, isImmune);
    varied(t);
    return fought(t, 6);
  }

  private static void conditions() {
    matters("hero afflicted", hero -> withCondition(hero, 'b', 0, 0, 0), 0, 1);
    matters("condition", condition -> withCondition(1, (char) condition, 0, 0, 0), "psbid");
    same("held", withCondition(1, 'h', 0, 0, 0));
    matters("difficulty", difficulty -> withCondition(1, 's', difficulty, 0, 0), 0, 9, 12);
    // All blows hit: one less for each turn in which hero 1 is stunned.
    matters("rounds of a condition", rounds -> {
      HeroTable t = pair();
      t.afflict(1, 's', 0, rounds, 0);
      return fought(t, 8);
    }, 0, 1, 2, 3);
    matters("whose a condition is", whose -> withCondition(1, 's', 0, 2, whose), 0, 1);
    matters("hero immune", hero -> immune(hero, 'p', false), 0, 1);
    matters("immune to", condition -> immune(1, (char) condition, true), "pi");
    matters("immune or not", isImmune -> immune(1, 'p', isImmune == 1), 0, 1);
  }

  private static void diceAndTurns() {
    matters("die", die -> {
      HeroTable t = pair();
      tell(t, die);
      t.afflict(1, 'b', 10, 0, 0);
      t.begin();
      t.endTurn();
      t.endTurn();
      t.cast('f', 2, 2);
      return t;
    }, 9, 10);
    matters("turns ended", turns -> {
      HeroTable t = duel();
      t.addSource(0, 'd', 'u', 9, 2, 0);
      for (int i = 0; i < turns; i++) {
        t.endTurn();
      }
      return blows(t, 1);
    }, 2, 4, 5);
    matters("a rest", isRest -> {
      HeroTable t = pair();
      t.addSource(0, 'd', 'u', 9, 3, 0);
      t.begin();
      if (isRest == 1) {
        t.rest();
        t.begin();
      }
      return blows(t, 1);
    }, 0, 1);
    matters("one more begin", rounds -> {
      HeroTable t = pair();
      t.afflict(1, 'p', 0, 0, 0);
      t.begin();
      t.rest();
      if (rounds == 1) {
        t.begin();
        t.attack(1);
      }
      return t;
    }, 0, 1);
  }

  private static void acts() {
    matters("attacked", other -> {
      HeroTable t = pair();
      t.addHero(1, 90, 5, 1, 2);
      t.begin();
      t.attack(other);
      return t;
    }, 1, 2);
    Maker steps = way -> {
      HeroTable t = empty();
      t.addHero(0, 90, 20, 3, 3);
      t.addHero(1, 80, 15, 5, 3);
      t.addHero(1, 80, 10, 1, 3);
      t.addHero(1, 80, 10, 3, 5);
      t.addHero(1, 80, 10, 3, 1);
      t.begin();
      t.step(way % 3 - 1, way / 3 - 1);
      for (int i = 1; i < 5; i++) {
        int other = i;
        Expect.outcome(() -> t.attack(other));
      }
      t.endTurn();
      while (t.turn() != 0) {
        Expect.outcome(() -> t.attack(0));
        t.endTurn();
      }
      return t;
    };
    matters("dx", steps, 3, 5);
    matters("dy", steps, 1, 7);
    for (int way : new int[] {0, 2, 6, 8}) {
      same("aslant " + way, steps.make(way));
    }
    matters("a stand", isStanding -> {
      HeroTable t = pair();
      t.afflict(0, 'p', 0, 0, 0);
      t.begin();
      tell(t, 7);
      if (isStanding == 1) {
        t.stand();
      }
      return blows(t, 1);
    }, 0, 1);
    matters("trigger", trigger -> readied((char) trigger, 's'), "ac");
    matters("reaction to attacks", reaction -> readied('a', (char) reaction), "gs");
    matters("reaction to spells", reaction -> readied('c', (char) reaction), "xs");
    matters("for steps", isReady -> {
      HeroTable t = empty();
      t.addHero(0, 90, 20, 1, 1);
      t.addHero(1, 90, 10, 3, 1);
      t.begin();
      if (isReady == 1) {
        t.ready('m', 's');
      }
      t.endTurn();
      t.step(-1, 0);
      return t;
    }, 0, 1);
  }

  /** Hero 0 readied that; hero 1 attacks it and then casts. */
  private static HeroTable readied(char trigger, char reaction) {
    HeroTable t = duel();
    t.ready(trigger, reaction);
    t.endTurn();
    t.setBase(0, 'd', trigger == 'a' ? 6 : 7);
    t.attack(0);
    t.endTurn();
    t.ready(trigger, reaction);
    t.endTurn();
    tell(t, 12);
    t.cast('f', 2, 2);
    return t;
  }

  private static void spells() {
    matters("spell", spell -> {
      HeroTable t = duel();
      t.setBase(1, 'w', 1);
      t.cast((char) spell, 2, 1);
      t.endTurn();
      Expect.outcome(() -> t.attack(0));
      t.endTurn();
      tell(t, 7);
      t.attack(1);
      return t;
    }, "bfhs");
    matters("column of a spell", x -> {
      HeroTable t = duel();
      t.cast('f', x, 1);
      return t;
    }, 0, 1, 3, 4);
    matters("row of a spell", y -> {
      HeroTable t = empty();
      t.addHero(0, 90, 20, 1, 1);
      t.addHero(1, 90, 10, 1, 2);
      t.begin();
      t.cast('f', 1, y);
      return t;
    }, 0, 1, 3, 4);
    matters("no cell for s", x -> {
      HeroTable t = duel();
      if (x != 0) {
        t.cast('s', x, -x);
      }
      t.endTurn();
      tell(t, 9);
      t.attack(0);
      return t;
    }, 0, Integer.MIN_VALUE);
  }

  // ---- what a replay leaves

  /** First blows, and only then what would change them, if a replay left it for the next one. */
  private static void late(String what, Deed deed) {
    HeroTable t = pair();
    t.setGround(7, 7, '~');
    tell(t, 8, 8, 7, 9, 8, 8, 7);
    fought(t, 4);
    // Past (2, 2), at hero 1.
    t.cast('f', 3, 2);
    t.step(0, 1);
    t.rest();
    deed.make(t);
    String due = lives(t);
    for (int i = 0; i < 3; i++) {
      Expect.yes("41 sound each time: " + what, t.isSound());
      Expect.same("37 the same each time: " + what, livesAgain(t, 10), due);
    }
  }

  private static void nothingIsLeft() {
    for (char number : "atdsw".toCharArray()) {
      for (int hero = 0; hero < 2; hero++) {
        int whose = hero;
        late("base " + number, t -> t.setBase(whose, number, -20));
        late("base " + number, t -> t.setBase(whose, number, 40));
        late("source of " + number, t -> t.addSource(whose, number, '=', 40, 0, 0));
      }
    }
    for (char condition : "psbihd".toCharArray()) {
      late("condition " + condition, t -> t.afflict(0, condition, 0, 0, 0));
      late("condition " + condition, t -> t.afflict(1, condition, 0, 0, 0));
    }
    late("spare", t -> t.setSpare(1, 50));
    late("life", t -> t.heal(1, 2));
    late("a wall between", t -> t.setGround(2, 2, '#'));
    late("a wall where a hero was", t -> t.setGround(1, 1, '#'));
    late("another hero", t -> t.addHero(1, 50, 30, 2, 2));
    late("a turn", t -> t.begin());
    late("a round", t -> {
      t.begin();
      blows(t, 2);
    });
    late("a cell", t -> {
      t.begin();
      t.step(-1, -1);
    });
    late("what is readied", t -> {
      t.begin();
      t.ready('a', 's');
      t.endTurn();
      t.ready('a', 's');
    });
    late("what is minded", t -> {
      t.begin();
      t.cast('b', 1, 1);
    });
    late("slots", t -> {
      t.begin();
      for (int i = 0; i < 6; i++) {
        t.cast('s', 0, 0);
        t.endTurn();
      }
    });
    late("dice", t -> tell(t, 1, 20, 1, 20));
    immuneLate();
  }

  private static void immuneLate() {
    for (char condition : "psbihd".toCharArray()) {
      HeroTable t = pair();
      t.afflict(0, condition, 0, 0, 0);
      t.afflict(1, condition, 0, 0, 0);
      tell(t, 7, 8, 9, 6, 7, 8, 5, 9);
      fought(t, 3);
      t.setImmune(0, condition, true);
      t.setImmune(1, condition, true);
      t.setBase(1, 'd', 9);
      blows(t, 1);
      same("immune to " + condition, t);
    }
  }

  /** A source that comes of harm in one replay has the number of one that is told in the next. */
  private static void noSourceIsLeft() {
    HeroTable t = empty();
    t.addHero(0, 90, 20, 1, 1);
    t.addHero(1, 5, 10, 2, 1);
    t.setBase(1, 'a', 15);
    t.begin();
    t.attack(1);
    Expect.same("29 missed", t.lifeOf(1), 5);
    t.afflict(1, 'd', 0, 0, 0);
    t.heal(1, 1);
    t.addSource(0, 't', 'u', 9, 0, 0);
    t.endTurn();
    t.endTurn();
    Expect.same("29 the told one is live", t.attack(1), -2);
    for (int i = 0; i < 3; i++) {
      Expect.same("37 down by harm, healed, down as told", t.again(0, 19, 1), 1);
      Expect.same("37 as it was", t.again(0, 10, 1), 5);
      Expect.yes("41 sound", t.isSound());
    }
    // The same with a source of a number, which a heal does not end.
    HeroTable number = empty();
    number.addHero(0, 90, 20, 1, 1);
    number.addHero(1, 5, 10, 2, 1);
    number.setBase(1, 'a', 15);
    number.begin();
    number.attack(1);
    number.addSource(1, 'd', 'u', 9, 0, 0);
    number.heal(1, 1);
    number.endTurn();
    Expect.same("29 with the source", number.attack(0), 14);
    for (int i = 0; i < 3; i++) {
      Expect.same("37 down by harm, and healed", number.again(0, 19, 1), 1);
      Expect.same("37 with the source", number.again(0, 10, 0), 76);
      Expect.yes("41 sound", number.isSound());
    }
    // The same with a blessing, which is undone by one of two dice.
    HeroTable spell = empty();
    spell.addHero(1, 90, 20, 5, 5);
    spell.addHero(0, 90, 10, 1, 1);
    spell.begin();
    spell.ready('c', 'x');
    spell.endTurn();
    Expect.same("33 undone", spell.cast('b', 1, 1), 'u');
    spell.addSource(1, 'd', 'u', 9, 0, 0);
    spell.endTurn();
    spell.cast('f', 1, 1);
    spell.endTurn();
    spell.endSource(0);
    Expect.no("35 minds none", spell.minds(1));
    same("a blessing", spell);
  }

  /** Each die that was told is changed alone, the used ones and those that are left. */
  private static void eachDieAlone() {
    HeroTable t = pair();
    tell(t, 8, 9, 11, 12);
    fought(t, 4);
    Expect.same("21 one is left", t.dice(), 1);
    Expect.same("7 four hits", lives(t).substring(0, 5), "80 80");
    int[] struck = {1, 0, 1, 0};
    for (int die = 0; die < 5; die++) {
      for (int value = 1; value <= 20; value++) {
        for (int hero = 0; hero < 2; hero++) {
          boolean isChanged = die < 4 && struck[die] == hero;
          int harm = value == 20 ? 10 : value >= 8 ? 5 : 0;
          int due = isChanged ? 85 - harm : 80;
          Expect.same("37 die " + die + " as " + value, t.again(die, value, hero), due);
        }
      }
    }
    Expect.refuses("37 the next die", IndexOutOfBoundsException.class, () -> t.again(5, 1, 0));
    Expect.same("36 none is kept", t.kept(), 16);
  }
}
