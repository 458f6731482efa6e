/** Promises 1 to 10: heroes and cells. */
public final class HeroesTest {
  private static final Class<IndexOutOfBoundsException> NO_INDEX = IndexOutOfBoundsException.class;
  private static final Class<IllegalArgumentException> BAD = IllegalArgumentException.class;
  private static final Class<IllegalStateException> STATE = IllegalStateException.class;
  private static final Class<UnsupportedOperationException> CAN_NOT =
      UnsupportedOperationException.class;

  public static void main(String[] args) {
    newObject();
    addHero();
    addHeroRefused();
    setGround();
    setBase();
    setSpare();
    heal();
    healWhoIsDown();
    lifeSpareAndCell();
    seesByLines();
    seesRefused();
    Expect.finish("HeroesTest");
  }

  private static void newObject() {
    HeroTable t = new HeroTable();
    Expect.refuses("1 no hero", NO_INDEX, () -> t.lifeOf(0));
    Expect.same("1 sources", t.sources(), 0);
    Expect.same("1 dice", t.dice(), 0);
    Expect.same("1 round", t.round(), 0);
    Expect.same("1 kept", t.kept(), 0);
    Expect.same("1 harm", t.harmDone(), 0L);
    Expect.yes("1 sound", t.isSound());
    for (int x = 0; x < 8; x++) {
      for (int y = 0; y < 8; y++) {
        Expect.same("1 plain", t.setGround(x, y, '.'), '.');
      }
    }
  }

  private static void addHero() {
    HeroTable t = new HeroTable();
    Expect.same("2 first", t.addHero(0, 1, 0, 0, 0), 0);
    Expect.same("2 second", t.addHero(1, 99, 30, 7, 7), 1);
    Expect.same("2 life", t.lifeOf(1), 99);
    Expect.same("2 spare", t.spareOf(1), 0);
    Expect.same("2 slots", t.slots(1), 3);
    Expect.same("2 armour", t.numberOf(1, 'a'), 12);
    Expect.same("2 attack", t.numberOf(1, 't'), 4);
    Expect.same("2 damage", t.numberOf(1, 'd'), 5);
    Expect.same("2 speed", t.numberOf(1, 's'), 4);
    Expect.same("2 will", t.numberOf(1, 'w'), 2);
    t.setGround(3, 3, '~');
    Expect.same("2 rough is fine", t.addHero(0, 5, 5, 3, 3), 2);
    t.begin();
    t.rest();
    Expect.same("2 behind a fight", t.addHero(0, 5, 5, 4, 3), 3);
    Expect.no("2 no reaction yet", t.canReact(3));
  }

  private static void addHeroRefused() {
    HeroTable t = new HeroTable();
    Expect.refuses("2 side -1", BAD, () -> t.addHero(-1, 5, 5, 0, 0));
    Expect.refuses("2 side 2", BAD, () -> t.addHero(2, 5, 5, 0, 0));
    Expect.refuses("2 life 0", BAD, () -> t.addHero(0, 0, 5, 0, 0));
    Expect.refuses("2 life 100", BAD, () -> t.addHero(0, 100, 5, 0, 0));
    Expect.refuses("2 initiative -1", BAD, () -> t.addHero(0, 5, -1, 0, 0));
    Expect.refuses("2 initiative 31", BAD, () -> t.addHero(0, 5, 31, 0, 0));
    Expect.refuses("2 column -1", BAD, () -> t.addHero(0, 5, 5, -1, 0));
    Expect.refuses("2 column 8", BAD, () -> t.addHero(0, 5, 5, 8, 0));
    Expect.refuses("2 row -1", BAD, () -> t.addHero(0, 5, 5, 0, -1));
    Expect.refuses("2 row 8", BAD, () -> t.addHero(0, 5, 5, 0, 8));
    t.setGround(1, 1, '#');
    Expect.refuses("2 wall", CAN_NOT, () -> t.addHero(0, 5, 5, 1, 1));
    t.addHero(0, 5, 5, 0, 0);
    Expect.refuses("2 hero there", CAN_NOT, () -> t.addHero(0, 5, 5, 0, 0));
    t.begin();
    Expect.refuses("2 turn on", STATE, () -> t.addHero(0, 5, 5, 2, 2));
    Expect.refuses("2 turn on, before the cell", STATE, () -> t.addHero(0, 5, 5, 1, 1));
    Expect.refuses("2 range before turn", BAD, () -> t.addHero(2, 5, 5, 1, 1));
    t.rest();
    for (int i = 1; i < 6; i++) {
      Expect.same("2 number", t.addHero(1, 5, 5, i, 5), i);
    }
    Expect.refuses("2 six heroes", STATE, () -> t.addHero(0, 5, 5, 2, 2));
    Expect.refuses("2 six heroes, before the wall", STATE, () -> t.addHero(0, 5, 5, 1, 1));
    Expect.refuses("2 no hero 6", NO_INDEX, () -> t.lifeOf(6));
    Expect.same("2 kept", t.kept(), 9);
  }

  private static void setGround() {
    HeroTable t = new HeroTable();
    Expect.same("3 before", t.setGround(7, 0, '#'), '.');
    Expect.same("3 wall before", t.setGround(7, 0, '~'), '#');
    Expect.same("3 rough before", t.setGround(7, 0, '.'), '~');
    Expect.same("3 column and row", t.setGround(0, 7, '.'), '.');
    Expect.refuses("3 column", BAD, () -> t.setGround(8, 0, '.'));
    Expect.refuses("3 column -1", BAD, () -> t.setGround(-1, 0, '.'));
    Expect.refuses("3 row", BAD, () -> t.setGround(0, 8, '.'));
    Expect.refuses("3 row -1", BAD, () -> t.setGround(0, -1, '.'));
    Expect.refuses("3 ground", BAD, () -> t.setGround(0, 0, 'x'));
    t.addHero(0, 5, 5, 2, 2);
    Expect.refuses("3 hero there", CAN_NOT, () -> t.setGround(2, 2, '#'));
    Expect.refuses("3 ground first", BAD, () -> t.setGround(2, 2, (char) 0));
    Expect.same("3 rough with a hero", t.setGround(2, 2, '~'), '.');
    Expect.same("3 nothing changed", t.setGround(2, 2, '.'), '~');
  }

  private static void setBase() {
    HeroTable t = new HeroTable();
    t.addHero(0, 5, 5, 0, 0);
    Expect.same("4 armour", t.setBase(0, 'a', 40), 12);
    Expect.same("4 attack", t.setBase(0, 't', -20), 4);
    Expect.same("4 damage", t.setBase(0, 'd', 1), 5);
    Expect.same("4 speed", t.setBase(0, 's', 2), 4);
    Expect.same("4 will", t.setBase(0, 'w', 3), 2);
    Expect.same("4 again", t.setBase(0, 'a', 11), 40);
    Expect.same("4 number", t.numberOf(0, 'a'), 11);
    Expect.same("4 number least", t.numberOf(0, 't'), -20);
    t.addSource(0, 'a', '=', 30, 0, 0);
    Expect.same("4 the base, not what is set", t.setBase(0, 'a', 12), 11);
    Expect.same("4 set all the same", t.numberOf(0, 'a'), 30);
    Expect.refuses("4 no hero", NO_INDEX, () -> t.setBase(1, 'a', 1));
    Expect.refuses("4 hero -1 first", NO_INDEX, () -> t.setBase(-1, 'x', 99));
    Expect.refuses("4 no number", BAD, () -> t.setBase(0, 'x', 1));
    Expect.refuses("4 too low", BAD, () -> t.setBase(0, 'a', -21));
    Expect.refuses("4 too high", BAD, () -> t.setBase(0, 'a', 41));
  }

  private static void setSpare() {
    HeroTable t = new HeroTable();
    t.addHero(0, 5, 5, 0, 0);
    Expect.same("5 none at first", t.setSpare(0, 50), 0);
    Expect.same("5 before", t.setSpare(0, 0), 50);
    Expect.refuses("5 no hero", NO_INDEX, () -> t.setSpare(1, 51));
    Expect.refuses("5 -1", BAD, () -> t.setSpare(0, -1));
    Expect.refuses("5 51", BAD, () -> t.setSpare(0, 51));
    Expect.same("5 nothing changed", t.spareOf(0), 0);
  }

  private static void heal() {
    HeroTable t = duel(20);
    t.attack(1);
    Expect.same("6 hurt", t.lifeOf(1), 15);
    t.addSource(1, 'a', 'u', 3, 0, 0);
    t.afflict(1, 'p', 0, 0, 0);
    Expect.same("6 some", t.heal(1, 2), 17);
    Expect.yes("6 ends nothing else", t.isLive(0) && t.isLive(1));
    Expect.same("6 up to the greatest", t.heal(1, 99), 20);
    Expect.refuses("6 no hero", NO_INDEX, () -> t.heal(2, 0));
    Expect.refuses("6 0", BAD, () -> t.heal(0, 0));
    Expect.refuses("6 100", BAD, () -> t.heal(0, 100));
  }

  private static void healWhoIsDown() {
    HeroTable t = duel(5);
    t.attack(1);
    Expect.yes("6 down by harm", t.has(1, 'd'));
    Expect.same("6 its source", t.sources(), 1);
    Expect.same("6 heals", t.heal(1, 1), 1);
    Expect.no("6 not down any more", t.has(1, 'd'));
    Expect.no("6 source ended", t.isLive(0));
    t.afflict(1, 'd', 0, 0, 0);
    t.heal(1, 1);
    Expect.yes("6 down, but not by harm", t.has(1, 'd'));
    t.endTurn();
    t.endTurn();
    t.cast('f', 2, 1);
    Expect.same("6 no second one that lasts", t.sources(), 2);
    Expect.same("6 no life", t.lifeOf(1), 0);
    t.heal(1, 1);
    Expect.yes("6 still down by the told one", t.has(1, 'd'));
  }

  private static void lifeSpareAndCell() {
    HeroTable t = new HeroTable();
    t.addHero(0, 7, 5, 3, 2);
    t.setSpare(0, 4);
    Expect.same("7 life", t.lifeOf(0), 7);
    Expect.same("8 spare", t.spareOf(0), 4);
    Expect.same("9 cell", t.cellOf(0), 19);
    for (int hero : new int[] {-1, 1, 6, Integer.MAX_VALUE, Integer.MIN_VALUE}) {
      Expect.refuses("7 hero " + hero, NO_INDEX, () -> t.lifeOf(hero));
      Expect.refuses("8 hero " + hero, NO_INDEX, () -> t.spareOf(hero));
      Expect.refuses("9 hero " + hero, NO_INDEX, () -> t.cellOf(hero));
    }
  }

  private static void seesByLines() {
    HeroTable t = new HeroTable();
    t.addHero(0, 7, 5, 2, 2);
    t.setGround(3, 2, '#');
    Expect.no("10 behind a wall", t.sees(0, 4, 2));
    Expect.yes("10 the wall itself", t.sees(0, 3, 2));
    Expect.yes("10 its own cell", t.sees(0, 2, 2));
    // Half a column on the way to (3, 4) counts as a whole one: by (3, 3).
    Expect.yes("10 free", t.sees(0, 3, 4));
    t.setGround(2, 3, '#');
    Expect.yes("10 of two the greater one", t.sees(0, 3, 4));
    t.setGround(3, 3, '#');
    Expect.no("10 by the greater column", t.sees(0, 3, 4));
    // Half a column back on the way to (1, 4) is rounded to the greater one too: by (2, 3).
    Expect.no("10 back by the greater column", t.sees(0, 1, 4));
    t.setGround(2, 3, '~');
    Expect.yes("10 rough hides nothing", t.sees(0, 1, 4));
    t.setGround(1, 3, '#');
    Expect.yes("10 not by the lesser column", t.sees(0, 1, 4));
    // The same with rows: from (2, 2) to (0, 1) by (1, 2), not by (1, 1).
    t.setGround(1, 1, '#');
    Expect.yes("10 by the greater row", t.sees(0, 0, 1));
    t.setGround(1, 2, '#');
    Expect.no("10 behind the greater row", t.sees(0, 0, 1));
    t.afflict(0, 'b', 0, 0, 0);
    Expect.no("10 blind", t.sees(0, 2, 2));
    t.setImmune(0, 'b', true);
    Expect.yes("10 immune", t.sees(0, 2, 2));
  }

  private static void seesRefused() {
    HeroTable t = new HeroTable();
    t.addHero(0, 7, 5, 2, 2);
    Expect.refuses("10 no hero first", NO_INDEX, () -> t.sees(1, 9, 9));
    Expect.refuses("10 column 8", BAD, () -> t.sees(0, 8, 0));
    Expect.refuses("10 column -1", BAD, () -> t.sees(0, -1, 0));
    Expect.refuses("10 row 8", BAD, () -> t.sees(0, 0, 8));
    Expect.refuses("10 row -1", BAD, () -> t.sees(0, 0, Integer.MIN_VALUE));
  }

  /** Hero 0, whose turn it is, beside hero 1, who has that life. */
  private static HeroTable duel(int life) {
    HeroTable t = new HeroTable();
    t.addHero(0, 20, 9, 1, 1);
    t.addHero(1, life, 8, 2, 1);
    t.begin();
    return t;
  }
}
