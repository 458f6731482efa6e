/** The part "Terms": each sentence at its edges, with all cases told where there are not too many. */
public final class TermsTest {
  private static final Class<UnsupportedOperationException> CAN_NOT =
      UnsupportedOperationException.class;
  private static final String CONDITIONS = "psbihd";

  public static void main(String[] args) {
    linesOfSight();
    conditionsImplied();
    noneDifferentInAnyOrder();
    latestThatSets();
    checksByRisingNumbers();
    stunnedCanDoNothing();
    stunnedDoesNotReact();
    noTurnYetNoReaction();
    whoReactsToAnAttack();
    orderOfReactions();
    guardsByDistance();
    guardsForOneAttack();
    strikesByDistance();
    oneReactionEach();
    comesToNothing();
    advantagesAndDrawbacks();
    hits();
    damage();
    takenFirstOfWhatIsBeside();
    downWithoutALife();
    healedFromHarm();
    mindsByChecks();
    mindsDown();
    undoneByChecks();
    allReactToASpell();
    strikesAtACaster();
    blessesByDistance();
    burnsByDistance();
    burnsByChecks();
    holdsByChecks();
    shieldsForARound();
    oneSpellMinded();
    stepsThatAreSeen();
    stepReactionsInOrder();
    playedAgain();
    Expect.finish("TermsTest");
  }

  private static HeroTable duel() {
    HeroTable t = new HeroTable();
    t.addHero(0, 40, 20, 1, 1);
    t.addHero(1, 40, 10, 2, 1);
    t.begin();
    return t;
  }

  private static void tell(HeroTable t, int... dice) {
    for (int die : dice) {
      t.tellDie(die);
    }
  }

  private static void untilTurnOf(HeroTable t, int hero) {
    do {
      t.endTurn();
    } while (t.turn() != hero);
  }

  /** Readies for the hero whose turn it is, and ends its turn. */
  private static void readies(HeroTable t, String both) {
    t.ready(both.charAt(0), both.charAt(1));
    t.endTurn();
  }

  // ---- heroes and cells

  /** The document's words with whole numbers alone: the nearest of two is told by its double. */
  private static boolean isBetween(int from, int to, int wall) {
    int dx = to % 8 - from % 8;
    int dy = to / 8 - from / 8;
    int n = Math.max(Math.abs(dx), Math.abs(dy));
    for (int k = 1; k < n; k++) {
      if (nearest(8 * n + dx * k, n) - 8 + from % 8 == wall % 8
          && nearest(8 * n + dy * k, n) - 8 + from / 8 == wall / 8) {
        return true;
      }
    }
    return false;
  }

  private static int nearest(int part, int whole) {
    int below = part / whole;
    return 2 * (part - below * whole) >= whole ? below + 1 : below;
  }

  private static void linesOfSight() {
    for (int from = 0; from < 64; from++) {
      for (int wall = 0; wall < 64; wall++) {
        if (wall == from) {
          continue;
        }
        HeroTable t = new HeroTable();
        t.addHero(0, 5, 5, from % 8, from / 8);
        t.setGround(wall % 8, wall / 8, '#');
        for (int to = 0; to < 64; to++) {
          Expect.same("10 from " + from + " to " + to + " with a wall in " + wall,
              t.sees(0, to % 8, to / 8), !isBetween(from, to, wall));
        }
      }
    }
  }

  // ---- numbers and conditions

  private static void conditionsImplied() {
    String[] tellers = {"pd", "shd", "b", "i", "h", "d"};
    for (char told : CONDITIONS.toCharArray()) {
      for (int immune = -1; immune < 6; immune++) {
        HeroTable t = duel();
        t.afflict(1, told, 0, 0, 0);
        if (immune >= 0) {
          t.setImmune(1, CONDITIONS.charAt(immune), true);
        }
        for (int asked = 0; asked < 6; asked++) {
          boolean isDue = tellers[asked].indexOf(told) >= 0
              && (immune < 0 || CONDITIONS.charAt(immune) != told);
          Expect.same("18 told " + told + ", immune " + immune + ", asked " + asked,
              t.has(1, CONDITIONS.charAt(asked)), isDue);
          Expect.no("18 not the other", t.has(0, CONDITIONS.charAt(asked)));
        }
      }
    }
  }

  /** Each number is what its live sources make, by any order of adding and ending. */
  private static void noneDifferentInAnyOrder() {
    int[][] orders = {{0, 1, 2, 3}, {3, 2, 1, 0}, {1, 3, 0, 2}, {2, 0, 3, 1}};
    for (int[] adding : orders) {
      for (int[] ending : orders) {
        HeroTable t = duel();
        int[] numbers = new int[4];
        for (int i : adding) {
          numbers[i] = t.addSource(0, 'a', "umpm".charAt(i), 3 + i, 0, 0);
        }
        Expect.same("16 all", t.numberOf(0, 'a'), 12 + 3 + 6 - 5);
        boolean[] ended = new boolean[4];
        for (int i : ending) {
          t.endSource(numbers[i]);
          ended[i] = true;
          int m = !ended[3] ? 6 : !ended[1] ? 4 : 0;
          int due = 12 + (ended[0] ? 0 : 3) + m - (ended[2] ? 0 : 5);
          Expect.same("16 without some", t.numberOf(0, 'a'), due);
          Expect.same("17 without some", t.numberAnew(0, 'a'), due);
        }
      }
    }
  }

  private static void latestThatSets() {
    HeroTable t = duel();
    t.addSource(0, 'd', '=', 30, 0, 0);
    t.addSource(0, 'd', '=', 0, 0, 0);
    Expect.same("16 by the latest, the lesser", t.numberOf(0, 'd'), 0);
    t.addSource(0, 'd', '=', 7, 1, 1);
    t.addSource(1, 'd', '=', 9, 0, 0);
    t.addSource(0, 'a', '=', 9, 0, 0);
    Expect.same("16 by the latest of its own", t.numberOf(0, 'd'), 7);
    t.endTurn();
    Expect.same("16 by the latest that is live", t.numberOf(0, 'd'), 0);
    t.endSource(1);
    Expect.same("16 by the first", t.numberOf(0, 'd'), 30);
    t.endSource(0);
    Expect.same("16 the base", t.numberOf(0, 'd'), 5);
  }

  // ---- turns

  private static void checksByRisingNumbers() {
    HeroTable t = duel();
    t.afflict(0, 'b', 15, 0, 0);
    t.afflict(1, 'b', 15, 0, 0);
    t.afflict(0, 'i', 15, 0, 0);
    t.addSource(0, 'a', 'u', 9, 0, 0);
    t.afflict(0, 'p', 0, 0, 0);
    t.afflict(0, 's', 15, 0, 0);
    tell(t, 13, 12, 14, 20);
    t.endTurn();
    Expect.no("23 the first by the first die", t.isLive(0));
    Expect.yes("23 not that of the other", t.isLive(1));
    Expect.yes("23 the second by the second die", t.isLive(2));
    Expect.yes("23 no check for a number", t.isLive(3));
    Expect.yes("23 no check without a difficulty", t.isLive(4));
    Expect.no("23 the third by the third die", t.isLive(5));
    Expect.same("23 three dice", t.dice(), 1);
    HeroTable immune = duel();
    immune.afflict(0, 'b', 13, 0, 0);
    immune.setImmune(0, 'b', true);
    tell(immune, 5);
    immune.endTurn();
    Expect.same("23 a check though it is immune", immune.dice(), 0);
    HeroTable byWill = duel();
    byWill.afflict(0, 'b', 13, 0, 0);
    byWill.addSource(0, 'w', 'u', 1, 0, 0);
    byWill.endTurn();
    Expect.no("23 by the will that its sources make", byWill.isLive(0));
  }

  private static void stunnedCanDoNothing() {
    for (char condition : "shd".toCharArray()) {
      HeroTable t = duel();
      t.afflict(0, condition, 0, 0, 0);
      Expect.refuses("29 by " + condition, CAN_NOT, () -> t.attack(1));
      Expect.refuses("30 by " + condition, CAN_NOT, () -> t.step(0, 1));
      Expect.refuses("31 by " + condition, CAN_NOT, () -> t.stand());
      Expect.refuses("32 by " + condition, CAN_NOT, () -> t.ready('a', 'g'));
      Expect.refuses("33 by " + condition, CAN_NOT, () -> t.cast('s', 1, 1));
      t.setImmune(0, condition, true);
      Expect.yes("30 immune to " + condition, t.step(0, 1));
      Expect.same("29 immune to " + condition, t.attack(1), 5);
    }
    HeroTable others = duel();
    others.afflict(0, 'p', 0, 0, 0);
    others.afflict(0, 'b', 0, 0, 0);
    others.afflict(0, 'i', 0, 0, 0);
    Expect.yes("30 by no other condition", others.step(0, 1));
    Expect.same("29 by no other condition", others.attack(1), 5);
  }

  private static void stunnedDoesNotReact() {
    for (String both : new String[] {"ag", "as", "ms", "cx", "cs"}) {
      HeroTable t = new HeroTable();
      t.addHero(0, 40, 30, 3, 3);
      t.addHero(1, 40, 20, 3, 5);
      t.addHero(1, 40, 10, 4, 3);
      t.begin();
      t.setBase(1, 's', 9);
      readies(t, both);
      t.afflict(0, 's', 0, 1, 2);
      t.step(0, -1);
      t.cast('s', 0, 0);
      t.step(0, 1);
      untilTurnOf(t, 0);
      t.ready(both.charAt(0), both.charAt(1));
      t.afflict(0, 's', 0, 2, 2);
      untilTurnOf(t, 2);
      t.attack(0);
      Expect.yes("28 keeps " + both, t.canReact(0));
      Expect.same("7 struck nobody by " + both, t.lifeOf(1) + t.lifeOf(2), 80);
    }
  }

  private static void noTurnYetNoReaction() {
    HeroTable t = new HeroTable();
    t.addHero(0, 40, 30, 1, 1);
    t.addHero(1, 40, 20, 2, 1);
    Expect.no("28 before a fight", t.canReact(0));
    t.begin();
    t.attack(1);
    Expect.no("28 the second, in the first one's turn", t.canReact(1));
    t.endTurn();
    readies(t, "as");
    Expect.yes("28 behind its turn", t.canReact(1));
    t.attack(1);
    Expect.same("7 strikes back then", t.lifeOf(0), 35);
  }

  // ---- attacks

  /** Hero 0 attacks 1; hero 2 stands by both, of that side, and readied that. */
  private static HeroTable watched(int side, String both) {
    HeroTable t = new HeroTable();
    t.addHero(0, 40, 10, 1, 1);
    t.addHero(1, 40, 15, 2, 1);
    t.addHero(side, 40, 20, 2, 2);
    t.begin();
    readies(t, both);
    t.endTurn();
    return t;
  }

  private static void whoReactsToAnAttack() {
    HeroTable guarded = watched(1, "ag");
    tell(guarded, 9);
    Expect.same("29 guarded by its side", guarded.attack(1), -1);
    Expect.no("28 gone", guarded.canReact(2));
    HeroTable notGuarded = watched(0, "ag");
    tell(notGuarded, 9);
    Expect.same("29 not by the other side", notGuarded.attack(1), 5);
    Expect.yes("28 kept", notGuarded.canReact(2));
    for (String both : new String[] {"ms", "cx", "cs"}) {
      HeroTable other = watched(1, both);
      Expect.same("29 readied for others", other.attack(1), 5);
      Expect.yes("28 kept for others", other.canReact(2));
      Expect.same("7 did not strike", other.lifeOf(0), 40);
    }
    // Who attacks does not guard the one of its own side that it attacks.
    HeroTable own = new HeroTable();
    own.addHero(0, 40, 20, 1, 1);
    own.addHero(0, 40, 10, 2, 1);
    own.addHero(1, 40, 5, 1, 2);
    own.begin();
    readies(own, "as");
    own.attack(0);
    Expect.same("7 the one attacked strikes back at its own side", own.lifeOf(1), 35);
    Expect.no("28 and used its reaction", own.canReact(0));
  }

  private static void orderOfReactions() {
    HeroTable t = new HeroTable();
    t.addHero(1, 40, 10, 1, 1);
    t.addHero(1, 40, 20, 2, 1);
    t.addHero(0, 40, 0, 2, 2);
    t.addHero(1, 40, 10, 3, 1);
    t.begin();
    readies(t, "as");
    readies(t, "as");
    readies(t, "as");
    t.setBase(0, 'd', 1);
    t.setBase(1, 'd', 2);
    t.setBase(3, 'd', 3);
    // The first of the order is hero 1, then 0 before 3 by their numbers: 2, then a miss, then 3.
    tell(t, 8, 7, 8, 7);
    Expect.same("29 the last die", t.attack(0), -1);
    Expect.same("7 by the first and the third", t.lifeOf(2), 35);
    HeroTable later = new HeroTable();
    later.addHero(1, 40, 30, 1, 1);
    later.addHero(0, 40, 20, 2, 1);
    later.addHero(1, 40, 10, 2, 2);
    later.begin();
    readies(later, "as");
    later.endTurn();
    readies(later, "as");
    later.endTurn();
    later.setBase(0, 'd', 1);
    later.setBase(2, 'd', 2);
    tell(later, 8, 7, 7);
    later.attack(2);
    Expect.same("29 from the first hero on, not from the one behind", later.lifeOf(1), 38);
  }

  private static void guardsByDistance() {
    for (int x = 0; x < 8; x++) {
      for (int y = 0; y < 8; y++) {
        if (x == 3 && y == 4) {
          continue;
        }
        HeroTable t = new HeroTable();
        t.addHero(1, 40, 30, x, y);
        t.addHero(0, 40, 20, 3, 4);
        boolean isItself = x == 4 && y == 4;
        if (!isItself) {
          t.addHero(1, 40, 10, 4, 4);
        }
        t.begin();
        readies(t, "ag");
        tell(t, 9);
        boolean isNear = Math.max(Math.abs(x - 4), Math.abs(y - 4)) <= 1;
        Expect.same("29 guarded from " + x + ", " + y, t.attack(isItself ? 0 : 2), isNear ? -1 : 5);
        Expect.no("28 gone from wherever", t.canReact(0));
      }
    }
  }

  private static void guardsForOneAttack() {
    HeroTable t = watched(1, "ag");
    tell(t, 10);
    Expect.same("29 not less than 14", t.attack(1), 5);
    HeroTable less = watched(1, "ag");
    tell(less, 9);
    Expect.same("29 less than 14", less.attack(1), -1);
    Expect.same("16 the armour is as before", less.numberOf(1, 'a'), 12);
    untilTurnOf(less, 0);
    tell(less, 8);
    Expect.same("29 the next attack is not guarded", less.attack(1), 5);
    HeroTable two = new HeroTable();
    two.addHero(1, 40, 30, 2, 1);
    two.addHero(1, 40, 25, 2, 2);
    two.addHero(0, 40, 20, 1, 1);
    two.begin();
    readies(two, "ag");
    readies(two, "ag");
    tell(two, 11);
    Expect.same("29 each by 2: less than 16", two.attack(0), -1);
  }

  private static void strikesByDistance() {
    for (int x = 0; x < 8; x++) {
      for (int y = 0; y < 8; y++) {
        if (x == 3 && y == 4) {
          continue;
        }
        HeroTable t = new HeroTable();
        t.addHero(1, 40, 30, x, y);
        t.addHero(0, 40, 20, 3, 4);
        boolean isItself = x == 4 && y == 4;
        if (!isItself) {
          t.addHero(1, 40, 10, 4, 4);
        }
        t.begin();
        readies(t, "as");
        t.attack(isItself ? 0 : 2);
        boolean isNear = Math.max(Math.abs(x - 3), Math.abs(y - 4)) == 1;
        Expect.same("29 struck from " + x + ", " + y, t.lifeOf(1), isNear ? 35 : 40);
        Expect.no("28 gone from wherever", t.canReact(0));
      }
    }
  }

  private static void oneReactionEach() {
    // Six heroes in two rows; all but the last readied to strike at attacks.
    HeroTable t = new HeroTable();
    for (int i = 0; i < 6; i++) {
      t.addHero(i % 2, 99, 20 - i, 2 + i % 2, 2 + i / 2);
    }
    t.begin();
    for (int i = 0; i < 5; i++) {
      readies(t, "as");
    }
    t.setBase(5, 's', 9);
    Expect.same("29 among many", t.attack(4), 5);
    for (int i = 0; i < 6; i++) {
      Expect.no("28 each one reacts just once", t.canReact(i));
    }
    long harm = t.harmDone();
    Expect.same("38 by all attacks", harm % 5, 0L);
    Expect.yes("41 sound", t.isSound());
    untilTurnOf(t, 5);
    t.attack(4);
    Expect.same("38 by one attack alone then", t.harmDone(), harm + 5);
  }

  private static void comesToNothing() {
    HeroTable t = duel();
    t.afflict(1, 'd', 0, 0, 0);
    Expect.same("29 the other is down", t.attack(1), -2);
    Expect.refuses("29 the action is used", CAN_NOT, () -> t.attack(1));
    HeroTable stunned = duel();
    stunned.afflict(1, 's', 0, 0, 0);
    tell(stunned, 8, 8);
    Expect.same("29 the other is just stunned", stunned.attack(1), 5);
    HeroTable struck = duel();
    struck.setBase(1, 'd', 40);
    struck.endTurn();
    readies(struck, "as");
    tell(struck, 8, 20);
    Expect.same("29 who attacks comes down before", struck.attack(1), -2);
    Expect.same("21 no die for it", struck.dice(), 1);
    Expect.same("7 the other is not hurt", struck.lifeOf(1), 40);
    HeroTable lives = duel();
    lives.setBase(1, 'd', 39);
    lives.endTurn();
    readies(lives, "as");
    Expect.same("29 who attacks has 1 left", lives.attack(1), 5);
    HeroTable immune = duel();
    immune.setBase(1, 'd', 40);
    immune.setImmune(0, 'd', true);
    immune.endTurn();
    readies(immune, "as");
    Expect.same("29 who attacks has none left, but is not down", immune.attack(1), 5);
  }

  /** All cases of three that are for an advantage and three that are for a drawback. */
  private static void advantagesAndDrawbacks() {
    for (int mask = 0; mask < 64; mask++) {
      boolean isAdvantage = (mask & 7) != 0;
      boolean isDrawback = (mask & 56) != 0;
      int dice = isAdvantage == isDrawback ? 1 : 2;
      for (int[] told : new int[][] {{7, 8}, {8, 7}, {7, 7}, {8, 8}}) {
        HeroTable t = duel();
        String afflicted = "psibpi";
        for (int i = 0; i < 6; i++) {
          if ((mask & 1 << i) != 0) {
            boolean isOfOther = i == 0 || i == 1 || i == 5;
            t.afflict(isOfOther ? 1 : 0, afflicted.charAt(i), 0, 0, 0);
          }
        }
        tell(t, told);
        int counts = told[0];
        if (dice == 2) {
          counts = isAdvantage ? Math.max(told[0], told[1]) : Math.min(told[0], told[1]);
        }
        String what = "29 case " + mask + " with " + told[0] + ", " + told[1];
        Expect.same(what, t.attack(1), counts == 8 ? 5 : -1);
        Expect.same(what + ": dice", t.dice(), 2 - dice);
      }
    }
  }

  private static void hits() {
    for (int die = 1; die <= 20; die++) {
      for (int armour = 0; armour <= 30; armour++) {
        HeroTable t = duel();
        t.setBase(1, 'a', armour);
        tell(t, die);
        boolean isHit = die == 20 || (die > 1 && die + 4 >= armour);
        int due = isHit ? (die == 20 ? 10 : 5) : -1;
        Expect.same("29 " + die + " against " + armour, t.attack(1), due);
      }
    }
    HeroTable best = duel();
    best.setBase(0, 't', 40);
    best.setBase(1, 'a', -20);
    tell(best, 1);
    Expect.same("29 a 1 never", best.attack(1), -1);
    HeroTable worst = duel();
    worst.setBase(0, 't', -20);
    worst.setBase(1, 'a', 40);
    tell(worst, 20);
    Expect.same("29 a 20 ever", worst.attack(1), 10);
    HeroTable both = duel();
    both.afflict(1, 'p', 0, 0, 0);
    tell(both, 1, 20);
    Expect.same("29 a 20 as the greater one", both.attack(1), 10);
    HeroTable lesser = duel();
    lesser.afflict(0, 'b', 0, 0, 0);
    lesser.setBase(0, 't', 40);
    tell(lesser, 20, 1);
    Expect.same("29 a 1 as the lesser one", lesser.attack(1), -1);
  }

  private static void damage() {
    for (int base : new int[] {-20, -1, 0, 1, 2, 39, 40}) {
      for (int die : new int[] {19, 20}) {
        HeroTable t = duel();
        t.setBase(0, 'd', base);
        tell(t, die);
        int due = Math.max(0, base) * (die == 20 ? 2 : 1);
        Expect.same("29 damage " + base + " with " + die, t.attack(1), due);
        Expect.same("7 life then", t.lifeOf(1), Math.max(0, 40 - due));
        Expect.same("18 down", t.has(1, 'd'), due >= 40);
        Expect.same("39 it hit", t.hitShare(), 1f);
      }
    }
  }

  // ---- harm

  private static void takenFirstOfWhatIsBeside() {
    for (int spare : new int[] {0, 1, 4, 5, 6, 50}) {
      for (int life : new int[] {1, 4, 5, 6}) {
        HeroTable t = new HeroTable();
        t.addHero(0, 40, 20, 1, 1);
        t.addHero(1, life, 10, 2, 1);
        t.setSpare(1, spare);
        t.begin();
        String what = " of " + spare + " and " + life;
        Expect.same("29 what is told" + what, t.attack(1), 5);
        int ofLife = Math.min(life, Math.max(0, 5 - spare));
        Expect.same("8 beside" + what, t.spareOf(1), Math.max(0, spare - 5));
        Expect.same("7 life" + what, t.lifeOf(1), life - ofLife);
        Expect.same("38 taken" + what, t.harmDone(), (long) (Math.min(5, spare) + ofLife));
        Expect.same("18 down" + what, t.has(1, 'd'), life == ofLife);
        Expect.same("19 a source" + what, t.sources(), life == ofLife ? 1 : 0);
      }
    }
  }

  /** Hero 0 burns hero 1, who has no more than 6, and is far from it. */
  private static HeroTable burnt() {
    HeroTable t = new HeroTable();
    t.addHero(0, 40, 20, 1, 1);
    t.addHero(1, 6, 10, 5, 5);
    t.begin();
    return t;
  }

  private static void downWithoutALife() {
    HeroTable t = burnt();
    tell(t, 1, 1);
    t.cast('f', 5, 5);
    Expect.yes("18 down", t.has(1, 'd'));
    Expect.yes("18 and so stunned and prone", t.has(1, 's') && t.has(1, 'p'));
    untilTurnOf(t, 0);
    Expect.yes("15 it lasts", t.isLive(0));
    t.cast('f', 5, 5);
    Expect.same("19 was down by such a one", t.sources(), 1);
    Expect.same("24 does not end by a rest", t.rest(), 0);
    t.endSource(0);
    t.begin();
    t.cast('f', 5, 5);
    Expect.same("19 was not any more", t.sources(), 2);
    HeroTable timed = burnt();
    timed.afflict(1, 'd', 0, 3, 0);
    tell(timed, 1);
    timed.cast('f', 5, 5);
    Expect.same("19 one for rounds is not such a one", timed.sources(), 2);
    HeroTable told = burnt();
    told.afflict(1, 'd', 9, 0, 0);
    tell(told, 1);
    told.cast('f', 5, 5);
    Expect.same("19 one that lasts is such a one", told.sources(), 1);
    HeroTable ended = burnt();
    ended.afflict(1, 'd', 0, 0, 0);
    ended.endSource(0);
    tell(ended, 1);
    ended.cast('f', 5, 5);
    Expect.same("19 one that has ended is not", ended.sources(), 2);
    HeroTable others = burnt();
    others.afflict(0, 'd', 0, 0, 0);
    others.setImmune(0, 'd', true);
    others.afflict(1, 'p', 0, 0, 0);
    tell(others, 1);
    others.cast('f', 5, 5);
    Expect.same("19 nor one of another hero or condition", others.sources(), 3);
  }

  private static void healedFromHarm() {
    HeroTable t = burnt();
    tell(t, 1);
    t.afflict(1, 'd', 0, 3, 0);
    t.cast('f', 5, 5);
    t.heal(0, 1);
    Expect.yes("6 not by healing another one", t.isLive(1));
    t.heal(1, 1);
    Expect.no("6 by harm not any more", t.isLive(1));
    Expect.yes("6 the told one is live still", t.isLive(0));
    Expect.yes("18 down by it", t.has(1, 'd'));
    t.endSource(0);
    Expect.no("18 not stunned", t.has(1, 's'));
    Expect.no("18 not prone", t.has(1, 'p'));
  }

  // ---- spells

  /** Hero 0 minds a blessing, is attacked with that damage, and checks with that die. */
  private static HeroTable minding(int damage, int die, int spare) {
    HeroTable t = new HeroTable();
    t.addHero(0, 99, 20, 1, 1);
    t.addHero(1, 40, 10, 2, 1);
    t.begin();
    t.cast('b', 1, 1);
    t.setBase(1, 'd', damage);
    t.setBase(0, 'w', 0);
    t.setSpare(0, spare);
    t.endTurn();
    tell(t, 19, die);
    t.attack(0);
    return t;
  }

  private static void mindsByChecks() {
    for (int spare : new int[] {0, 50}) {
      for (int damage : new int[] {1, 2, 19, 20, 21, 22, 23, 24, 40}) {
        for (int die = 1; die <= 20; die++) {
          HeroTable t = minding(damage, die, spare);
          boolean isDue = die >= 10 && die >= damage / 2;
          Expect.same("35 by " + die + " at " + damage, t.minds(0), isDue);
          Expect.same("15 its source", t.isLive(0), isDue);
          Expect.same("21 a check", t.dice(), 0);
        }
      }
    }
    Expect.yes("35 no harm, no check", minding(0, 1, 0).minds(0));
    Expect.same("21 no harm, no check", minding(0, 1, 0).dice(), 1);
    HeroTable missed = minding(-20, 1, 0);
    Expect.same("21 less than none, no check", missed.dice(), 1);
    HeroTable none = duel();
    none.endTurn();
    tell(none, 19, 1);
    none.attack(0);
    Expect.same("21 who minds nothing makes no check", none.dice(), 1);
  }

  private static void mindsDown() {
    HeroTable t = new HeroTable();
    t.addHero(0, 5, 20, 1, 1);
    t.addHero(1, 40, 10, 2, 1);
    t.begin();
    t.cast('b', 1, 1);
    t.endTurn();
    tell(t, 19, 20);
    t.attack(0);
    Expect.no("35 being down ends it", t.minds(0));
    Expect.same("21 without a check", t.dice(), 1);
    HeroTable told = new HeroTable();
    told.addHero(0, 40, 20, 1, 1);
    told.addHero(1, 40, 10, 2, 1);
    told.begin();
    told.cast('b', 1, 1);
    told.afflict(0, 'd', 0, 1, 1);
    Expect.yes("35 a told one ends it not by itself", told.minds(0));
    told.afflict(0, 'd', 0, 3, 0);
    told.endTurn();
    told.cast('f', 1, 1);
    Expect.no("35 but with the next harm", told.minds(0));
    HeroTable immune = new HeroTable();
    immune.addHero(0, 5, 20, 1, 1);
    immune.addHero(1, 40, 10, 2, 1);
    immune.setImmune(0, 'd', true);
    immune.begin();
    immune.cast('b', 1, 1);
    immune.endTurn();
    tell(immune, 19, 8);
    immune.attack(0);
    Expect.same("7 no life", immune.lifeOf(0), 0);
    Expect.yes("35 who is not down checks", immune.minds(0));
    Expect.same("21 with a die", immune.dice(), 0);
  }

  private static void undoneByChecks() {
    for (int die = 1; die <= 20; die++) {
      for (int will = -1; will <= 3; will++) {
        HeroTable t = new HeroTable();
        t.addHero(1, 40, 30, 7, 7);
        t.addHero(0, 40, 20, 1, 1);
        t.setBase(0, 'w', will);
        t.begin();
        readies(t, "cx");
        tell(t, die);
        boolean isUndone = die + will >= 12;
        Expect.same("33 by " + die + " and " + will, t.cast('s', 0, 0), isUndone ? 'u' : 'd');
        Expect.same("34 a slot, but not if undone", t.slots(1), isUndone ? 3 : 2);
        Expect.same("16 it leaves nothing", t.numberOf(1, 'a'), isUndone ? 12 : 16);
        Expect.same("19 no source", t.sources(), isUndone ? 0 : 1);
        Expect.no("28 gone", t.canReact(0));
        Expect.refuses("33 the action is used", CAN_NOT, () -> t.cast('s', 0, 0));
      }
    }
    for (char spell : "bfhs".toCharArray()) {
      HeroTable t = new HeroTable();
      t.addHero(1, 40, 30, 3, 3);
      t.addHero(0, 40, 20, 1, 1);
      t.begin();
      readies(t, "cx");
      String before = "" + t.lifeOf(0) + t.lifeOf(1) + t.sources() + t.slots(1);
      Expect.same("33 undone " + spell, t.cast(spell, 3, 3), 'u');
      String then = "" + t.lifeOf(0) + t.lifeOf(1) + t.sources() + t.slots(1);
      Expect.same("33 nothing by " + spell, then, before);
    }
    HeroTable walled = new HeroTable();
    walled.addHero(1, 40, 30, 3, 1);
    walled.addHero(0, 40, 20, 1, 1);
    walled.setGround(2, 1, '#');
    walled.begin();
    readies(walled, "cx");
    tell(walled, 20);
    Expect.same("33 not who does not see the caster", walled.cast('s', 0, 0), 'd');
    Expect.same("21 and makes no check", walled.dice(), 1);
    Expect.no("28 gone all the same", walled.canReact(0));
  }

  private static void allReactToASpell() {
    HeroTable t = new HeroTable();
    t.addHero(1, 40, 5, 2, 1);
    t.addHero(1, 40, 30, 6, 6);
    t.addHero(1, 40, 25, 6, 5);
    t.addHero(0, 40, 1, 1, 1);
    t.addHero(0, 40, 2, 1, 2);
    t.begin();
    readies(t, "cx");
    readies(t, "cx");
    readies(t, "cs");
    readies(t, "cx");
    tell(t, 10, 9, 8, 3);
    Expect.same("33 undone by the first", t.cast('s', 0, 0), 'u');
    Expect.same("21 the second checks too", t.dice(), 1);
    Expect.same("7 the third strikes too", t.lifeOf(3), 35);
    Expect.no("28 all are gone", t.canReact(0) || t.canReact(1) || t.canReact(2));
    Expect.yes("28 not that of the own side", t.canReact(4));
    // The check of the second one does not undo what the first one's did not.
    HeroTable second = new HeroTable();
    second.addHero(1, 40, 30, 6, 6);
    second.addHero(1, 40, 25, 6, 5);
    second.addHero(0, 40, 20, 1, 1);
    second.begin();
    readies(second, "cx");
    readies(second, "cx");
    tell(second, 9, 10);
    Expect.same("33 undone by the second", second.cast('s', 0, 0), 'u');
    HeroTable others = watchedCaster("as");
    others.cast('s', 0, 0);
    Expect.yes("28 readied for others", others.canReact(0));
    Expect.same("7 not struck", others.lifeOf(1), 40);
  }

  private static HeroTable watchedCaster(String both) {
    HeroTable t = new HeroTable();
    t.addHero(1, 40, 30, 2, 2);
    t.addHero(0, 40, 20, 1, 1);
    t.begin();
    readies(t, both);
    return t;
  }

  private static void strikesAtACaster() {
    for (int x = 0; x < 8; x++) {
      for (int y = 0; y < 8; y++) {
        if (x == 3 && y == 4) {
          continue;
        }
        HeroTable t = new HeroTable();
        t.addHero(1, 40, 30, x, y);
        t.addHero(0, 40, 20, 3, 4);
        t.begin();
        readies(t, "cs");
        Expect.same("33 done", t.cast('s', 0, 0), 'd');
        boolean isNear = Math.max(Math.abs(x - 3), Math.abs(y - 4)) == 1;
        Expect.same("33 struck from " + x + ", " + y, t.lifeOf(1), isNear ? 35 : 40);
        Expect.no("28 gone from wherever", t.canReact(0));
      }
    }
    HeroTable down = watchedCaster("cs");
    down.setBase(0, 'd', 40);
    Expect.same("33 comes to nothing", down.cast('s', 0, 0), 'n');
    Expect.same("34 no slot", down.slots(1), 3);
    Expect.same("16 nothing more is done", down.numberOf(1, 'a'), 12);
    HeroTable left = watchedCaster("cs");
    left.setBase(0, 'd', 39);
    Expect.same("33 with a life of 1 it is done", left.cast('s', 0, 0), 'd');
  }

  private static void blessesByDistance() {
    for (int side = 0; side < 2; side++) {
      for (int cell = 0; cell < 64; cell++) {
        if (cell == 0) {
          continue;
        }
        HeroTable t = new HeroTable();
        t.addHero(0, 40, 20, 0, 0);
        t.addHero(side, 40, 10, cell % 8, cell / 8);
        t.begin();
        Expect.same("33 done", t.cast('b', 4, 3), 'd');
        boolean isNear = Math.max(Math.abs(cell % 8 - 4), Math.abs(cell / 8 - 3)) <= 2;
        int due = isNear && side == 0 ? 5 : 4;
        Expect.same("33 the attack in " + cell + " of " + side, t.numberOf(1, 't'), due);
        Expect.same("33 the own attack", t.numberOf(0, 't'), 4);
        Expect.same("35 minded if it reaches one", t.minds(0), due == 5);
        Expect.same("19 a source each", t.sources(), due - 4);
        Expect.no("35 by the caster alone", t.minds(1));
      }
    }
    HeroTable walled = duel();
    walled.setGround(0, 1, '#');
    walled.setGround(1, 0, '#');
    walled.setGround(0, 0, '#');
    walled.cast('b', 0, 0);
    Expect.same("33 walls do not matter to b", walled.numberOf(0, 't'), 5);
    Expect.same("24 it lasts", walled.rest(), 0);
  }

  private static void burnsByDistance() {
    for (int side = 0; side < 2; side++) {
      for (int cell = 1; cell < 64; cell++) {
        HeroTable t = new HeroTable();
        t.addHero(0, 40, 20, 0, 0);
        t.addHero(side, 40, 10, cell % 8, cell / 8);
        t.begin();
        tell(t, 1);
        Expect.same("33 done", t.cast('f', 4, 3), 'd');
        boolean isNear = Math.max(Math.abs(cell % 8 - 4), Math.abs(cell / 8 - 3)) <= 1;
        Expect.same("33 burns in " + cell + " of " + side, t.lifeOf(1), isNear ? 34 : 40);
        Expect.same("21 a check of each", t.dice(), isNear ? 0 : 1);
      }
    }
    HeroTable itself = duel();
    tell(itself, 1, 10);
    itself.cast('f', 1, 1);
    Expect.same("33 itself too", itself.lifeOf(0), 34);
    Expect.same("33 by rising numbers", itself.lifeOf(1), 37);
  }

  private static void burnsByChecks() {
    for (int die = 1; die <= 20; die++) {
      HeroTable t = burnt();
      tell(t, die);
      t.setSpare(1, 1);
      t.cast('f', 5, 5);
      Expect.same("33 harm by " + die, t.harmDone(), die + 2 >= 12 ? 3L : 6L);
    }
    // Each one's check is followed by its harm, before the next one's.
    HeroTable t = duel();
    t.cast('b', 1, 1);
    untilTurnOf(t, 0);
    tell(t, 12, 5, 9, 12);
    t.cast('f', 1, 1);
    Expect.same("33 3 by the first die", t.lifeOf(0), 37);
    Expect.no("35 by the second die", t.minds(0));
    Expect.same("33 6 by the third die", t.lifeOf(1), 34);
    Expect.same("21 no more", t.dice(), 1);
  }

  private static void holdsByChecks() {
    for (int die = 1; die <= 20; die++) {
      HeroTable t = duel();
      tell(t, die);
      boolean isHeld = die + 2 < 12;
      Expect.same("33 by " + die, t.cast('h', 2, 1), isHeld ? 'd' : 'n');
      Expect.same("18 held", t.has(1, 'h'), isHeld);
      Expect.same("35 minded", t.minds(0), isHeld);
      Expect.same("34 a slot in each case", t.slots(0), 2);
      Expect.same("19 a source", t.sources(), isHeld ? 1 : 0);
      if (isHeld) {
        t.endTurn();
        Expect.yes("23 no check in another's turn", t.has(1, 'h'));
        tell(t, 9);
        t.endTurn();
        Expect.yes("23 11 is less than 12", t.has(1, 'h'));
        t.endTurn();
        tell(t, 10);
        t.endTurn();
        Expect.no("23 12 is not", t.has(1, 'h'));
        Expect.no("35 not minded then", t.minds(0));
      }
    }
    HeroTable own = duel();
    tell(own, 1);
    Expect.same("33 not itself", own.cast('h', 1, 1), 'n');
    Expect.same("21 no check of it", own.dice(), 1);
    Expect.same("34 a slot for it", own.slots(0), 2);
    HeroTable empty = duel();
    tell(empty, 1);
    Expect.same("33 nobody in the cell beside", empty.cast('h', 2, 2), 'n');
    Expect.same("34 a slot for nobody", empty.slots(0), 2);
    HeroTable blessed = duel();
    tell(blessed, 1);
    blessed.cast('h', 2, 1);
    blessed.endSource(0);
    Expect.no("35 ended by a call", blessed.minds(0));
  }

  private static void shieldsForARound() {
    HeroTable t = duel();
    t.cast('s', 5, 5);
    Expect.same("16 better by 4", t.numberOf(0, 'a'), 16);
    Expect.same("16 the other's not", t.numberOf(1, 'a'), 12);
    tell(t, 11);
    t.endTurn();
    Expect.same("29 15 misses 16", t.attack(0), -1);
    t.endTurn();
    Expect.same("16 ends as the own turn begins", t.numberOf(0, 'a'), 12);
    Expect.no("15 its source", t.isLive(0));
    t.cast('s', 5, 5);
    Expect.same("24 lasts for rounds", t.rest(), 1);
  }

  private static void oneSpellMinded() {
    for (String two : new String[] {"bb", "bh", "hb", "hh"}) {
      for (int will : new int[] {-20, 20}) {
        HeroTable t = duel();
        t.setBase(1, 'w', -20);
        t.cast(two.charAt(0), two.charAt(0) == 'b' ? 1 : 2, 1);
        Expect.yes("35 minds " + two.charAt(0), t.minds(0) && t.isLive(0));
        untilTurnOf(t, 0);
        t.setBase(1, 'w', will);
        boolean isDone = two.charAt(1) == 'b' || will < 0;
        Expect.same("33 then " + two.charAt(1), t.cast(two.charAt(1), 2, 1), isDone ? 'd' : 'n');
        Expect.no("35 ends the one before in " + two + " with " + will, t.isLive(0));
        Expect.same("35 minds the next one of " + two, t.minds(0), isDone);
        Expect.same("19 its source", t.sources(), isDone ? 2 : 1);
      }
    }
    for (char spell : "fs".toCharArray()) {
      HeroTable t = duel();
      t.cast('b', 1, 1);
      untilTurnOf(t, 0);
      t.cast(spell, 7, 7);
      Expect.yes("35 minded behind " + spell, t.minds(0) && t.isLive(0));
    }
    HeroTable two = new HeroTable();
    two.addHero(0, 40, 20, 1, 1);
    two.addHero(0, 40, 10, 2, 1);
    two.begin();
    two.cast('b', 1, 1);
    two.endTurn();
    two.cast('b', 1, 1);
    Expect.yes("35 each minds its own", two.minds(0) && two.minds(1));
    Expect.same("16 of one type the greatest", two.numberOf(0, 't'), 5);
    two.endSource(0);
    Expect.yes("35 with one of two sources", two.minds(0));
    two.endSource(1);
    Expect.no("35 with none of two", two.minds(0));
    Expect.yes("35 not that of the other", two.minds(1));
    // Behind the reactions: what is minded is checked for when a reaction harms the caster.
    HeroTable behind = watchedCaster("cs");
    behind.cast('b', 1, 1);
    untilTurnOf(behind, 0);
    behind.ready('c', 's');
    untilTurnOf(behind, 1);
    tell(behind, 8, 20, 3);
    Expect.same("33 done behind it", behind.cast('b', 1, 1), 'd');
    Expect.same("21 a check for the one before", behind.dice(), 1);
  }

  // ---- steps

  private static void stepsThatAreSeen() {
    for (int x = 0; x < 8; x++) {
      for (int y = 0; y < 8; y++) {
        for (int i = 0; i < 9; i++) {
          stepSeenFrom(x, y, i % 3 - 1, i / 3 - 1);
        }
      }
    }
  }

  /** A hero goes from (3, 4); one in this cell readied for steps. */
  private static void stepSeenFrom(int x, int y, int dx, int dy) {
    boolean isTaken = (x == 3 && y == 4) || (x == 3 + dx && y == 4 + dy);
    if (isTaken || (dx == 0 && dy == 0)) {
      return;
    }
    for (int side = 0; side < 2; side++) {
      HeroTable t = new HeroTable();
      t.addHero(1 - side, 40, 30, x, y);
      t.addHero(0, 40, 20, 3, 4);
      t.begin();
      readies(t, "ms");
      Expect.yes("30 goes", t.step(dx, dy));
      boolean isNear = Math.max(Math.abs(x - 3 - dx), Math.abs(y - 4 - dy)) == 1;
      boolean wasNear = Math.max(Math.abs(x - 3), Math.abs(y - 4)) == 1;
      boolean isDue = isNear && !wasNear && side == 0;
      Expect.same("30 struck from " + x + ", " + y, t.lifeOf(1), isDue ? 35 : 40);
      Expect.same("28 gone if so", t.canReact(0), !isDue);
    }
  }

  private static void stepReactionsInOrder() {
    HeroTable t = new HeroTable();
    t.addHero(1, 40, 20, 2, 1);
    t.addHero(1, 40, 30, 3, 1);
    t.addHero(1, 40, 20, 4, 1);
    t.addHero(0, 5, 10, 3, 3);
    t.begin();
    readies(t, "ms");
    readies(t, "ms");
    readies(t, "ms");
    t.setBase(0, 'd', 1);
    t.setBase(1, 'd', 2);
    t.setBase(2, 'd', 1);
    tell(t, 8, 7, 8, 7);
    Expect.yes("30 is not down", t.step(0, -1));
    Expect.same("7 by the first and the third", t.lifeOf(3), 2);
    Expect.same("21 three dice", t.dice(), 1);
    for (int life : new int[] {5, 6}) {
      HeroTable down = new HeroTable();
      down.addHero(1, 40, 30, 3, 1);
      down.addHero(0, life, 10, 3, 3);
      down.begin();
      readies(down, "ms");
      Expect.same("30 down with 0", down.step(0, -1), life == 6);
      Expect.same("9 has gone all the same", down.cellOf(1), 19);
      Expect.same("27 and paid for it", down.steps(), 3);
    }
    HeroTable guarded = new HeroTable();
    guarded.addHero(1, 40, 30, 3, 1);
    guarded.addHero(0, 40, 20, 4, 3);
    guarded.addHero(0, 40, 10, 3, 3);
    guarded.begin();
    readies(guarded, "ms");
    readies(guarded, "ag");
    tell(guarded, 9);
    guarded.step(0, -1);
    Expect.same("30 an attack as all are: guarded", guarded.lifeOf(2), 40);
    Expect.no("28 by one of the side", guarded.canReact(1));
  }

  // ---- transcript

  private static void playedAgain() {
    HeroTable t = duel();
    t.setBase(0, 'd', 40);
    tell(t, 2);
    t.attack(1);
    t.endTurn();
    t.attack(0);
    t.endTurn();
    Expect.same("7 struck back", t.lifeOf(0), 35);
    Expect.same("37 the other comes down, its attack is left out", t.again(0, 19, 0), 40);
    Expect.same("37 its life then", t.again(0, 19, 1), 0);
    Expect.same("37 as it was", t.again(0, 2, 0), 35);
    Expect.same("36 a replay is not kept", t.kept(), 9);
    Expect.same("7 nor does it change a life", t.lifeOf(1), 40);
    Expect.yes("41 sound", t.isSound());
    // What was refused is not played again, though it would not be refused then.
    HeroTable refused = duel();
    refused.setBase(1, 'd', 40);
    refused.afflict(1, 's', 20, 0, 0);
    tell(refused, 1);
    refused.endTurn();
    Expect.outcome(() -> refused.attack(0));
    refused.endTurn();
    refused.endTurn();
    refused.endSource(0);
    Expect.same("37 not attacked", refused.again(0, 20, 0), 40);
  }
}
