import java.util.Random;

/** A call that throws changes nothing, and no call throws anything but what is told. */
public final class RefusalsTest {
  private static final int[] NUMBERS = {
    -1, 0, 1, 2, 3, 5, 7, 8, 9, 10, 20, 21, 31, 60, 100, Integer.MIN_VALUE, Integer.MAX_VALUE
  };
  private static final String SIGNS = "atdswumsop=pbih.#~gxcmf\u0000\uffff";
  private static final String TOLD = "IndexOutOfBoundsException IllegalArgumentException"
      + " IllegalStateException UnsupportedOperationException NoSuchElementException";

  private final HeroTable table = new HeroTable();
  private final Random random;

  private RefusalsTest(int seed) {
    random = new Random(seed);
  }

  public static void main(String[] args) {
    for (int seed = 0; seed < 60; seed++) {
      new RefusalsTest(seed).run();
    }
    Expect.finish("RefusalsTest");
  }

  private void run() {
    for (int i = 0; i < 4; i++) {
      table.addHero(i % 2, 10 + i, random.nextInt(31), i, random.nextInt(3));
    }
    for (int i = 4; i < 512; i++) {
      String before = Picture.of(table);
      Object outcome = Expect.outcome(this::anyCall);
      if (outcome instanceof String) {
        Expect.yes("throws " + outcome, TOLD.contains((String) outcome));
        Expect.same("nothing changed by " + outcome, Picture.of(table), before);
      }
    }
    Expect.yes("sound", table.isSound());
  }

  private int number() {
    return random.nextInt(3) == 0 ? NUMBERS[random.nextInt(NUMBERS.length)] : random.nextInt(5);
  }

  private char sign() {
    return SIGNS.charAt(random.nextInt(SIGNS.length()));
  }

  private Object anyCall() {
    switch (random.nextInt(21)) {
      case 0: return table.addHero(number(), number(), number(), number(), number());
      case 1: return table.setGround(number(), number(), sign());
      case 2: return table.setBase(number(), sign(), number());
      case 3: return table.setSpare(number(), number());
      case 4: return table.heal(number(), number());
      case 5: return table.addSource(number(), sign(), sign(), number(), number(), number());
      case 6: return table.afflict(number(), sign(), number(), number(), number());
      case 7: return table.endSource(number());
      case 8: return table.setImmune(number(), sign(), random.nextBoolean());
      case 9: return table.tellDie(number());
      case 10: return table.begin();
      case 11: case 12: return table.endTurn();
      case 13: return random.nextInt(8) == 0 ? (Object) table.rest() : table.endTurn();
      case 14: return table.attack(number());
      case 15: return table.step(number() - 1, number() - 1);
      case 16: return table.stand();
      case 17: return table.ready(sign(), sign());
      case 18: return table.cast(sign(), number(), number());
      case 19: return table.again(number(), number(), number());
      default: return table.sees(number(), number(), number());
    }
  }
}
