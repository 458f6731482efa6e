import java.lang.management.ManagementFactory;

/** All calls of one run live in one room: what the dearest runs make has to stay small. */
public final class RoomTest {
  private static final com.sun.management.ThreadMXBean MEASURE =
      (com.sun.management.ThreadMXBean) ManagementFactory.getThreadMXBean();

  public static void main(String[] args) {
    // So that nothing that the machine makes once is measured.
    replays();
    spells();
    small("512 calls, half of them replays", replays(), 1 << 19);
    small("spells in all turns", spells(), 1 << 19);
    long before = bytes();
    HeroTable table = new HeroTable();
    small("a new object", bytes() - before, 1 << 13);
    Expect.yes("41 sound", table.isSound());
    Expect.finish("RoomTest");
  }

  private static void small(String what, long bytes, long most) {
    System.out.println(what + ": " + bytes + " bytes");
    Expect.yes(what + " takes " + bytes + " bytes", bytes <= most);
  }

  private static long bytes() {
    return MEASURE.getThreadAllocatedBytes(Thread.currentThread().getId());
  }

  private static long replays() {
    HeroTable table = new HeroTable();
    long before = bytes();
    table.addHero(0, 99, 9, 1, 1);
    table.addHero(1, 99, 8, 2, 1);
    table.setBase(0, 'd', 1);
    table.setBase(1, 'd', 1);
    table.tellDie(3);
    table.begin();
    boolean isSound = true;
    for (int i = 0; i < 126; i++) {
      table.attack(1 - table.turn());
      isSound &= table.isSound();
      table.endTurn();
      isSound &= table.again(0, 1 + i % 20, 0) >= 0;
    }
    long made = bytes() - before;
    Expect.yes("41 sound each time", isSound);
    return made;
  }

  private static long spells() {
    HeroTable table = new HeroTable();
    long before = bytes();
    for (int i = 0; i < 6; i++) {
      table.addHero(0, 99, i, 2 + i % 3, 2 + i / 3);
    }
    table.begin();
    for (int i = 0; i < 220; i++) {
      table.cast('b', 3, 3);
      table.endTurn();
      if (i % 18 == 17) {
        table.rest();
        table.begin();
      }
    }
    boolean isSound = table.isSound();
    long made = bytes() - before;
    Expect.same("19 sources", table.sources(), 1320);
    Expect.yes("41 sound at last", isSound);
    return made;
  }
}
