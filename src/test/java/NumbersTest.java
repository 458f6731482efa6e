/** Promises 11 to 19: numbers and conditions. */
public final class NumbersTest {
  private static final Class<IndexOutOfBoundsException> NO_INDEX = IndexOutOfBoundsException.class;
  private static final Class<IllegalArgumentException> BAD = IllegalArgumentException.class;
  private static final Class<IllegalStateException> STATE = IllegalStateException.class;

  public static void main(String[] args) {
    bonusesByTypes();
    latestThatSets();
    addSourceRefused();
    afflict();
    afflictRefused();
    sixtySources();
    endSource();
    immunity();
    implied();
    numberRefused();
    Expect.finish("NumbersTest");
  }

  private static HeroTable pair() {
    HeroTable t = new HeroTable();
    t.addHero(0, 20, 9, 1, 1);
    t.addHero(1, 20, 8, 2, 1);
    return t;
  }

  private static void number(HeroTable t, int hero, char sign, int due) {
    Expect.same("16 number " + sign, t.numberOf(hero, sign), due);
    Expect.same("17 anew " + sign, t.numberAnew(hero, sign), due);
  }

  private static void bonusesByTypes() {
    HeroTable t = pair();
    char[] signs = {'a', 't', 'd', 's', 'w'};
    int[] bases = {12, 4, 5, 4, 2};
    for (int i = 0; i < 5; i++) {
      char sign = signs[i];
      int first = t.sources();
      Expect.same("11 its number", t.addSource(0, sign, 'u', 1, 0, 0), first);
      t.addSource(0, sign, 'u', 2, 0, 0);
      number(t, 0, sign, bases[i] + 3);
      t.addSource(0, sign, 'm', 5, 0, 0);
      t.addSource(0, sign, 'm', 3, 0, 0);
      number(t, 0, sign, bases[i] + 8);
      t.addSource(0, sign, 's', 4, 0, 0);
      t.addSource(0, sign, 'o', 9, 0, 0);
      t.addSource(0, sign, 'o', 9, 0, 0);
      number(t, 0, sign, bases[i] + 21);
      t.addSource(0, sign, 'p', 2, 0, 0);
      t.addSource(0, sign, 'p', 2, 0, 0);
      number(t, 0, sign, bases[i] + 17);
      t.endSource(first + 2);
      number(t, 0, sign, bases[i] + 15);
      t.endSource(first + 3);
      number(t, 0, sign, bases[i] + 12);
      number(t, 1, sign, bases[i]);
    }
    t.setBase(0, 'a', -20);
    number(t, 0, 'a', -8);
    Expect.yes("11 sound", t.isSound());
  }

  private static void latestThatSets() {
    HeroTable t = pair();
    t.addSource(0, 'w', '=', 40, 0, 0);
    t.addSource(0, 'w', '=', -20, 0, 0);
    t.addSource(0, 'w', '=', 7, 0, 0);
    t.addSource(0, 'w', 'u', 1, 0, 0);
    number(t, 0, 'w', 8);
    t.endSource(1);
    number(t, 0, 'w', 8);
    t.endSource(2);
    number(t, 0, 'w', 41);
    t.setBase(0, 'w', 3);
    number(t, 0, 'w', 41);
    t.endSource(0);
    number(t, 0, 'w', 4);
  }

  private static void addSourceRefused() {
    HeroTable t = pair();
    Expect.refuses("11 no hero", NO_INDEX, () -> t.addSource(2, 'x', 'x', 0, -1, 0));
    Expect.refuses("11 no whose", NO_INDEX, () -> t.addSource(0, 'x', 'x', 0, -1, -1));
    Expect.refuses("11 no number", BAD, () -> t.addSource(0, 'x', 'u', 1, 0, 0));
    Expect.refuses("11 no type", BAD, () -> t.addSource(0, 'a', 'x', 1, 0, 0));
    Expect.refuses("11 amount 0", BAD, () -> t.addSource(0, 'a', 'u', 0, 0, 0));
    Expect.refuses("11 amount 10", BAD, () -> t.addSource(0, 'a', 'p', 10, 0, 0));
    Expect.refuses("11 set -21", BAD, () -> t.addSource(0, 'a', '=', -21, 0, 0));
    Expect.refuses("11 set 41", BAD, () -> t.addSource(0, 'a', '=', 41, 0, 0));
    Expect.refuses("11 rounds -1", BAD, () -> t.addSource(0, 'a', 'u', 1, -1, 0));
    Expect.refuses("11 rounds 10", BAD, () -> t.addSource(0, 'a', 'u', 1, 10, 0));
    Expect.same("19 none", t.sources(), 0);
  }

  private static void afflict() {
    HeroTable t = pair();
    char[] signs = {'p', 's', 'b', 'i', 'h', 'd'};
    for (int i = 0; i < 6; i++) {
      Expect.no("18 not at first", t.has(0, signs[i]));
    }
    Expect.same("12 first", t.afflict(0, 'p', 0, 0, 0), 0);
    Expect.same("12 second", t.afflict(0, 'b', 30, 9, 1), 1);
    Expect.same("12 third", t.afflict(0, 'i', 30, 9, 1), 2);
    Expect.yes("18 prone", t.has(0, 'p'));
    Expect.yes("18 blind", t.has(0, 'b'));
    Expect.yes("18 invisible", t.has(0, 'i'));
    Expect.no("18 not stunned", t.has(0, 's'));
    Expect.no("18 the other is not", t.has(1, 'p'));
    t.afflict(0, 'p', 0, 0, 0);
    t.endSource(0);
    Expect.yes("18 by the other source", t.has(0, 'p'));
    t.endSource(3);
    Expect.no("18 by none", t.has(0, 'p'));
    Expect.same("19 how many there were", t.sources(), 4);
  }

  private static void afflictRefused() {
    HeroTable t = pair();
    Expect.refuses("12 no hero", NO_INDEX, () -> t.afflict(2, 'x', -1, 0, 0));
    Expect.refuses("12 no whose", NO_INDEX, () -> t.afflict(0, 'x', -1, 0, 2));
    Expect.refuses("12 no condition", BAD, () -> t.afflict(0, 'a', 0, 0, 0));
    Expect.refuses("12 difficulty -1", BAD, () -> t.afflict(0, 'p', -1, 0, 0));
    Expect.refuses("12 difficulty 31", BAD, () -> t.afflict(0, 'p', 31, 0, 0));
    Expect.refuses("12 rounds -1", BAD, () -> t.afflict(0, 'p', 0, -1, 0));
    Expect.refuses("12 rounds 10", BAD, () -> t.afflict(0, 'p', 0, 10, 0));
    Expect.same("12 nothing told", t.sources(), 0);
  }

  private static void sixtySources() {
    HeroTable t = pair();
    for (int i = 0; i < 60; i++) {
      Expect.same("11 number", t.addSource(0, 'a', 'u', 1, 0, 0), i);
    }
    number(t, 0, 'a', 72);
    Expect.refuses("11 60", STATE, () -> t.addSource(0, 'a', 'u', 1, 0, 0));
    Expect.refuses("12 60", STATE, () -> t.afflict(0, 'p', 0, 0, 0));
    Expect.refuses("11 range first", BAD, () -> t.addSource(0, 'a', 'u', 0, 0, 0));
    Expect.refuses("12 range first", BAD, () -> t.afflict(0, 'p', 31, 0, 0));
    t.endSource(0);
    Expect.refuses("11 60 that were", STATE, () -> t.addSource(0, 'a', 'u', 1, 0, 0));
    t.begin();
    Expect.same("33 spells add theirs", t.cast('b', 1, 1), 'd');
    Expect.same("19 by a spell", t.sources(), 61);
    t.setBase(1, 'd', 40);
    t.setBase(1, 't', 40);
    t.setBase(0, 'a', -20);
    t.endTurn();
    for (int i = 1; i < 60; i++) {
      t.endSource(i);
    }
    Expect.same("29 hits", t.attack(0), 40);
    Expect.same("19 by harm", t.sources(), 62);
    Expect.yes("12 down by harm", t.has(0, 'd'));
  }

  private static void endSource() {
    HeroTable t = pair();
    Expect.refuses("13 none yet", NO_INDEX, () -> t.endSource(0));
    Expect.refuses("15 none yet", NO_INDEX, () -> t.isLive(0));
    t.afflict(0, 'p', 0, 0, 0);
    Expect.yes("15 live", t.isLive(0));
    Expect.yes("13 was live", t.endSource(0));
    Expect.no("15 not live", t.isLive(0));
    Expect.no("13 was not", t.endSource(0));
    Expect.refuses("13 -1", NO_INDEX, () -> t.endSource(-1));
    Expect.refuses("13 behind", NO_INDEX, () -> t.endSource(1));
    Expect.refuses("15 -1", NO_INDEX, () -> t.isLive(-1));
    Expect.refuses("15 behind", NO_INDEX, () -> t.isLive(Integer.MAX_VALUE));
  }

  private static void immunity() {
    HeroTable t = pair();
    char[] signs = {'p', 's', 'b', 'i', 'h', 'd'};
    for (char sign : signs) {
      t.afflict(0, sign, 0, 0, 0);
      Expect.no("14 before", t.setImmune(0, sign, true));
      Expect.yes("14 was", t.setImmune(0, sign, true));
      Expect.no("18 immune", t.has(0, sign));
      Expect.yes("14 was still", t.setImmune(0, sign, false));
      Expect.no("14 is not", t.setImmune(0, sign, false));
      Expect.yes("18 not immune", t.has(0, sign));
      t.endSource(t.sources() - 1);
    }
    Expect.refuses("14 no hero", NO_INDEX, () -> t.setImmune(2, 'x', true));
    Expect.refuses("14 no condition", BAD, () -> t.setImmune(0, 'x', true));
  }

  private static void implied() {
    HeroTable t = pair();
    t.afflict(0, 'h', 0, 0, 0);
    Expect.yes("18 held is stunned", t.has(0, 's'));
    Expect.no("18 held is not prone", t.has(0, 'p'));
    Expect.no("18 held is not down", t.has(0, 'd'));
    t.setImmune(0, 's', true);
    Expect.yes("18 immune to what the source does not tell", t.has(0, 's'));
    t.setImmune(0, 'h', true);
    Expect.no("18 immune to what it tells", t.has(0, 's'));
    t.afflict(1, 'd', 0, 0, 0);
    Expect.yes("18 down is stunned", t.has(1, 's'));
    Expect.yes("18 down is prone", t.has(1, 'p'));
    Expect.no("18 down is not held", t.has(1, 'h'));
    t.afflict(1, 's', 0, 0, 0);
    t.setImmune(1, 'd', true);
    Expect.yes("18 stunned by the other", t.has(1, 's'));
    Expect.no("18 not prone", t.has(1, 'p'));
    Expect.no("18 stunned is not held", t.has(1, 'h'));
  }

  private static void numberRefused() {
    HeroTable t = pair();
    Expect.refuses("16 no hero", NO_INDEX, () -> t.numberOf(2, 'x'));
    Expect.refuses("16 no number", BAD, () -> t.numberOf(0, 'p'));
    Expect.refuses("17 no hero", NO_INDEX, () -> t.numberAnew(-1, 'x'));
    Expect.refuses("17 no number", BAD, () -> t.numberAnew(0, (char) 65535));
    Expect.refuses("18 no hero", NO_INDEX, () -> t.has(2, 'x'));
    Expect.refuses("18 no condition", BAD, () -> t.has(0, 'a'));
  }
}
