/** Promises 36 to 41: figures. */
public final class FiguresTest {
  private static final Class<IndexOutOfBoundsException> NO_INDEX = IndexOutOfBoundsException.class;
  private static final Class<IllegalArgumentException> BAD = IllegalArgumentException.class;
  private static final Class<ArithmeticException> NONE = ArithmeticException.class;

  public static void main(String[] args) {
    kept();
    again();
    againWithoutAHero();
    againLeavesOut();
    againRefused();
    shares();
    means();
    sound();
    Expect.finish("FiguresTest");
  }

  private static void kept() {
    HeroTable t = new HeroTable();
    t.addHero(0, 20, 9, 1, 1);
    t.addHero(1, 20, 8, 2, 1);
    t.setGround(5, 5, '#');
    t.setBase(0, 'a', 12);
    t.setSpare(0, 0);
    t.heal(0, 1);
    t.addSource(0, 'a', 'u', 1, 0, 0);
    t.afflict(0, 'i', 0, 0, 0);
    t.endSource(0);
    t.endSource(0);
    t.setImmune(0, 'i', false);
    t.tellDie(3);
    Expect.same("36 twelve", t.kept(), 12);
    t.begin();
    t.attack(1);
    t.step(-1, -1);
    t.stand();
    t.endTurn();
    t.ready('a', 'g');
    t.endTurn();
    t.cast('s', 0, 0);
    t.rest();
    Expect.same("36 all that tell", t.kept(), 21);
    t.numberOf(0, 'a');
    t.numberAnew(0, 'a');
    t.has(0, 'p');
    t.sees(0, 1, 1);
    t.isSound();
    t.again(0, 1, 0);
    t.meanLife();
    t.hitShare();
    Expect.outcome(() -> t.endTurn());
    Expect.outcome(() -> t.tellDie(0));
    Expect.outcome(() -> t.attack(1));
    Expect.same("36 no more than these", t.kept(), 21);
  }

  private static void again() {
    HeroTable t = new HeroTable();
    t.addHero(0, 20, 9, 1, 1);
    t.addHero(1, 20, 8, 2, 1);
    t.tellDie(3);
    t.tellDie(12);
    t.begin();
    t.attack(1);
    t.endTurn();
    t.attack(0);
    Expect.same("37 the first misses", t.lifeOf(1), 20);
    Expect.same("37 would hit", t.again(0, 8, 1), 15);
    Expect.same("37 would hit twice", t.again(0, 20, 1), 10);
    Expect.same("37 of the other hero", t.again(0, 20, 0), 15);
    Expect.same("37 the second would miss", t.again(1, 1, 0), 20);
    Expect.same("37 the same", t.again(1, 12, 0), 15);
    Expect.same("37 changes nothing", t.lifeOf(1), 20);
    Expect.same("37 no harm", t.harmDone(), 5L);
    Expect.same("37 no dice", t.dice(), 0);
    Expect.yes("41 sound", t.isSound());
  }

  private static void againWithoutAHero() {
    HeroTable t = new HeroTable();
    t.addHero(0, 20, 9, 3, 3);
    t.afflict(0, 's', 20, 0, 0);
    t.tellDie(18);
    t.begin();
    t.endTurn();
    t.step(1, 0);
    t.rest();
    t.addHero(1, 7, 9, 3, 3);
    Expect.same("37 there", t.again(0, 19, 1), 7);
    Expect.same("37 not there: its cell is not free", t.again(0, 1, 1), -1);
    Expect.same("37 the first is", t.again(0, 1, 0), 20);
  }

  private static void againLeavesOut() {
    HeroTable t = new HeroTable();
    t.addHero(0, 20, 9, 3, 3);
    t.addHero(1, 20, 8, 4, 3);
    t.afflict(0, 'h', 20, 0, 0);
    t.tellDie(18);
    t.begin();
    t.endTurn();
    t.endTurn();
    t.attack(1);
    t.endTurn();
    t.attack(0);
    Expect.same("37 hurt", t.lifeOf(1), 15);
    Expect.same("37 what throws is left out", t.again(0, 17, 1), 20);
    Expect.same("37 the rest is done", t.again(0, 17, 0), 15);
  }

  private static void againRefused() {
    HeroTable t = new HeroTable();
    t.addHero(0, 20, 9, 3, 3);
    Expect.refuses("37 none told", NO_INDEX, () -> t.again(0, 1, 0));
    t.tellDie(4);
    Expect.refuses("37 -1", NO_INDEX, () -> t.again(-1, 1, 0));
    Expect.refuses("37 1", NO_INDEX, () -> t.again(1, 1, 0));
    Expect.refuses("37 no hero, first", NO_INDEX, () -> t.again(0, 0, 1));
    Expect.refuses("37 value 0", BAD, () -> t.again(0, 0, 0));
    Expect.refuses("37 value 21", BAD, () -> t.again(0, 21, 0));
  }

  private static void shares() {
    HeroTable t = new HeroTable();
    t.addHero(0, 99, 9, 3, 3);
    t.addHero(1, 99, 8, 4, 3);
    Expect.refuses("39 none", NONE, () -> t.hitShare());
    t.begin();
    for (int i = 0; i < 3; i++) {
      t.tellDie(i == 0 ? 10 : 2);
      t.attack(1 - t.turn());
      t.endTurn();
    }
    Expect.same("39 one of three", t.hitShare(), 1f / 3f);
    Expect.same("38 harm", t.harmDone(), 5L);
  }

  private static void means() {
    HeroTable t = new HeroTable();
    Expect.refuses("40 none", NONE, () -> t.meanLife());
    t.addHero(0, 10, 9, 3, 3);
    Expect.same("40 one", t.meanLife(), 10.0);
    t.addHero(0, 5, 9, 3, 4);
    t.addHero(0, 5, 9, 3, 5);
    t.setSpare(0, 50);
    Expect.same("40 three", t.meanLife(), 20.0 / 3.0);
  }

  private static void sound() {
    HeroTable t = new HeroTable();
    t.addHero(0, 20, 9, 1, 1);
    t.addHero(1, 20, 8, 2, 1);
    t.begin();
    t.cast('b', 1, 1);
    t.endTurn();
    t.attack(0);
    t.step(1, 0);
    t.endTurn();
    t.heal(0, 3);
    for (int i = 0; i < 5; i++) {
      Expect.yes("41 sound, as often as asked", t.isSound());
    }
  }
}
