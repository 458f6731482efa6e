/** All that can be asked of a table, as one text: two tables that answer alike have the same. */
final class Picture {
  private static final String NUMBERS = "atdsw";
  private static final String CONDITIONS = "psbihd";

  private Picture() {
  }

  static String of(HeroTable table) {
    StringBuilder all = new StringBuilder();
    for (int hero = 0; hero < 6; hero++) {
      hero(all, table, hero);
    }
    for (int s = 0; s < table.sources(); s++) {
      int source = s;
      add(all, () -> table.isLive(source));
    }
    add(all, () -> table.sources());
    add(all, () -> table.dice());
    add(all, () -> table.turn());
    add(all, () -> table.round());
    add(all, () -> table.steps());
    add(all, () -> table.kept());
    add(all, () -> table.harmDone());
    add(all, () -> table.hitShare());
    add(all, () -> table.meanLife());
    return all.toString();
  }

  private static void hero(StringBuilder all, HeroTable table, int hero) {
    add(all, () -> table.lifeOf(hero));
    add(all, () -> table.spareOf(hero));
    add(all, () -> table.cellOf(hero));
    add(all, () -> table.canReact(hero));
    add(all, () -> table.slots(hero));
    add(all, () -> table.minds(hero));
    for (char sign : NUMBERS.toCharArray()) {
      add(all, () -> table.numberOf(hero, sign));
    }
    for (char sign : CONDITIONS.toCharArray()) {
      add(all, () -> table.has(hero, sign));
    }
    for (int cell = 0; cell < 64; cell++) {
      int c = cell;
      add(all, () -> table.sees(hero, c % 8, c / 8));
    }
  }

  /** Plays a fixed run of calls, so that what is held inside shows itself; all its outcomes. */
  static String goOn(HeroTable table) {
    StringBuilder all = new StringBuilder();
    add(all, () -> table.begin());
    for (int i = 0; i < 13; i++) {
      int other = i % 3;
      add(all, () -> table.ready(other == 0 ? 'a' : 'm', 's'));
      add(all, () -> table.attack(other));
      add(all, () -> table.cast("bfhs".charAt(other), 2, 1));
      add(all, () -> table.step(other - 1, 1));
      add(all, () -> table.step(1, 0));
      add(all, () -> table.stand());
      add(all, () -> table.endTurn());
      add(all, () -> table.steps());
    }
    add(all, () -> table.heal(0, 1));
    add(all, () -> table.again(0, 20, 0));
    add(all, () -> table.rest());
    add(all, () -> table.begin());
    add(all, () -> table.tellDie(9));
    add(all, () -> table.setGround(2, 1, '.'));
    for (char sign : NUMBERS.toCharArray()) {
      add(all, () -> table.setBase(0, sign, 1));
    }
    for (char sign : CONDITIONS.toCharArray()) {
      add(all, () -> table.setImmune(0, sign, true));
    }
    add(all, () -> table.isSound());
    return all.append(of(table)).toString();
  }

  private static void add(StringBuilder all, Expect.Call call) {
    all.append(Expect.outcome(call)).append(' ');
  }
}
