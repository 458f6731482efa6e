import java.util.Random;

/**
 * Random runs of 512 calls, each call made of the table and of the model of support/Model.java, which
 * is the document told a second time. A seed makes the same run each time.
 */
public final class RandomRunsTest {
  private final HeroTable table = new HeroTable();
  private final Model model = new Model();
  private final Random random;
  private final String name;
  private final int wildness;
  // In every second run the heroes stand close and mostly fight.
  private final boolean isClose;
  private int heroes;

  private RandomRunsTest(int seed) {
    random = new Random(seed);
    name = "run " + seed;
    wildness = 5 + 20 * (seed % 3);
    isClose = seed % 2 == 1;
  }

  public static void main(String[] args) {
    int runs = args.length > 0 ? Integer.parseInt(args[0]) : 3000;
    for (int seed = 0; seed < runs; seed++) {
      new RandomRunsTest(seed).run();
    }
    Expect.finish("RandomRunsTest");
  }

  private void run() {
    int first = isClose ? 9 : 2 + below(5);
    for (int i = 0; i < first; i++) {
      addHero();
    }
    for (int i = first; i < 512; i++) {
      if (isClose && below(100) < 80) {
        closeFight();
      } else if (below(100) < 45) {
        tell();
      } else if (below(100) < 55) {
        fight();
      } else {
        ask();
      }
    }
  }

  private int below(int n) {
    return random.nextInt(n);
  }

  /** A number of this range, at times one out of it. */
  private int some(int least, int most) {
    int odd = below(100 * 20 / wildness);
    if (odd == 0) return least - 1;
    if (odd == 1) return most + 1;
    if (odd == 2) return random.nextInt();
    if (odd < 6) return below(2) == 0 ? least : most;
    return least + below(most - least + 1);
  }

  private char sign(String signs) {
    return below(400 / wildness) == 0 ? (char) below(300) : signs.charAt(below(signs.length()));
  }

  private int hero() {
    return below(600 / wildness) == 0 ? some(0, 5) : below(Math.max(1, heroes));
  }

  private void same(String call, Expect.Call ofTable, Expect.Call ofModel) {
    Expect.same(name + ": " + call, Expect.outcome(ofTable), Expect.outcome(ofModel));
  }

  private void addHero() {
    int side = some(0, 1);
    int life = below(3) == 0 ? some(1, 99) : some(1, 25);
    int initiative = some(0, 30);
    int most = isClose ? 2 : 5;
    int x = below(isClose ? 20 : 4) == 0 ? some(0, 7) : some(1, most);
    int y = below(isClose ? 20 : 4) == 0 ? some(0, 7) : some(1, 4);
    same("addHero", () -> table.addHero(side, life, initiative, x, y),
        () -> model.addHero(side, life, initiative, x, y));
    heroes = model.men.size();
  }

  private void tell() {
    int h = hero();
    int other = hero();
    switch (below(12)) {
      case 0: addHero(); break;
      case 1: setGround(); break;
      case 2: {
        char n = sign("atdsw");
        int v = below(2) == 0 ? some(-20, 40) : some(0, 12);
        same("setBase", () -> table.setBase(h, n, v), () -> model.setBase(h, n, v));
        break;
      }
      case 3: {
        int v = below(2) == 0 ? some(0, 50) : some(0, 6);
        same("setSpare", () -> table.setSpare(h, v), () -> model.setSpare(h, v));
        break;
      }
      case 4: {
        int v = some(1, 99);
        same("heal", () -> table.heal(h, v), () -> model.heal(h, v));
        break;
      }
      case 5: addSource(h, other); break;
      case 6: afflict(h, other); break;
      case 7: {
        int s = some(0, Math.max(0, model.causes.size() - 1));
        same("endSource", () -> table.endSource(s), () -> model.endSource(s));
        break;
      }
      case 8: {
        char c = sign("psbihd");
        boolean immune = below(3) == 0;
        same("setImmune", () -> table.setImmune(h, c, immune), () -> model.setImmune(h, c, immune));
        break;
      }
      case 9: if (below(6) == 0) same("rest", () -> table.rest(), () -> model.rest()); break;
      default: {
        int die = below(4) == 0 ? 20 : some(1, 20);
        same("tellDie", () -> table.tellDie(die), () -> model.tellDie(die));
        break;
      }
    }
  }

  private void setGround() {
    int x = some(0, 7);
    int y = some(0, 7);
    char g = sign("..#~");
    same("setGround", () -> table.setGround(x, y, g), () -> model.setGround(x, y, g));
  }

  private void addSource(int h, int other) {
    char n = sign("atdsw");
    char type = sign("umsop=");
    int amount = type == '=' ? some(-20, 40) : some(1, 9);
    int rounds = below(2) == 0 ? some(0, 3) : some(0, 9);
    same("addSource", () -> table.addSource(h, n, type, amount, rounds, other),
        () -> model.addSource(h, n, type, amount, rounds, other));
  }

  private void afflict(int h, int other) {
    char c = sign("psbihd");
    int difficulty = some(0, 30);
    int rounds = below(2) == 0 ? some(0, 3) : some(0, 9);
    same("afflict", () -> table.afflict(h, c, difficulty, rounds, other),
        () -> model.afflict(h, c, difficulty, rounds, other));
  }

  private void closeFight() {
    if (model.at < 0) {
      same("begin", () -> table.begin(), () -> model.begin());
      return;
    }
    int h = model.turn();
    if (below(100) < 8) {
      tell();
    } else if (below(100) < 25) {
      int die = below(4) == 0 ? some(1, 20) : 6 + below(10);
      same("tellDie", () -> table.tellDie(die), () -> model.tellDie(die));
    } else if (below(100) < 40 && model.lifeOf(h) < 5) {
      same("heal", () -> table.heal(h, 12), () -> model.heal(h, 12));
    } else if (below(100) < 10) {
      step();
    } else if (model.action && !model.has(h, 's')) {
      act(h);
    } else {
      same("endTurn", () -> table.endTurn(), () -> model.endTurn());
    }
  }

  /** What most likely does something: to ready, to attack one who is near, or to cast. */
  private void act(int h) {
    if (below(100) < 60) {
      ready();
    } else if (below(100) < 40) {
      cast();
    } else {
      int first = below(heroes);
      for (int i = 0; i < heroes; i++) {
        int other = (first + i) % heroes;
        Model.Man near = model.men.get(other);
        boolean isNear = Math.abs(near.x - model.men.get(h).x) < 2
            && Math.abs(near.y - model.men.get(h).y) < 2 && other != h;
        if (isNear && near.side != model.men.get(h).side) {
          same("attack", () -> table.attack(other), () -> model.attack(other));
          return;
        }
      }
      ready();
    }
  }

  private void fight() {
    switch (below(10)) {
      case 0: same("begin", () -> table.begin(), () -> model.begin()); break;
      case 1: case 2: same("endTurn", () -> table.endTurn(), () -> model.endTurn()); break;
      case 3: {
        int h = hero();
        same("attack", () -> table.attack(h), () -> model.attack(h));
        break;
      }
      case 4: case 5: step(); break;
      case 6: same("stand", () -> table.stand(), () -> model.stand()); break;
      case 7: case 8: ready(); break;
      default: cast(); break;
    }
  }

  private void step() {
    int dx = some(-1, 1);
    int dy = some(-1, 1);
    same("step", () -> table.step(dx, dy), () -> model.step(dx, dy));
  }

  private void ready() {
    String both = new String[] {"ag", "as", "as", "as", "ms", "cx", "cs", "as"}[below(8)];
    char trigger = below(200 / wildness) == 0 ? sign("amc") : both.charAt(0);
    char reaction = both.charAt(1);
    same("ready", () -> table.ready(trigger, reaction), () -> model.ready(trigger, reaction));
  }

  private void cast() {
    char spell = sign("bfhs");
    int target = hero();
    boolean aims = target >= 0 && target < heroes && below(4) != 0;
    int x = aims ? model.men.get(target).x : some(0, 7);
    int y = aims ? model.men.get(target).y : some(0, 7);
    same("cast", () -> table.cast(spell, x, y), () -> model.cast(spell, x, y));
  }

  private void ask() {
    int h = hero();
    switch (below(20)) {
      case 0: same("lifeOf", () -> table.lifeOf(h), () -> model.lifeOf(h)); break;
      case 1: same("spareOf", () -> table.spareOf(h), () -> model.spareOf(h)); break;
      case 2: same("cellOf", () -> table.cellOf(h), () -> model.cellOf(h)); break;
      case 3: {
        int x = some(0, 7);
        int y = some(0, 7);
        same("sees", () -> table.sees(h, x, y), () -> model.sees(h, x, y));
        break;
      }
      case 4: {
        int s = some(0, Math.max(0, model.causes.size() - 1));
        same("isLive", () -> table.isLive(s), () -> model.isLive(s));
        break;
      }
      case 5: case 6: {
        char n = sign("atdsw");
        same("numberOf", () -> table.numberOf(h, n), () -> model.numberOf(h, n));
        same("numberAnew", () -> table.numberAnew(h, n), () -> model.numberOf(h, n));
        break;
      }
      case 7: case 8: {
        char c = sign("psbihd");
        same("has", () -> table.has(h, c), () -> model.has(h, c));
        break;
      }
      case 9: same("sources", () -> table.sources(), () -> model.causes.size()); break;
      case 10: same("dice", () -> table.dice(), () -> model.dice()); break;
      case 11: same("turn", () -> table.turn(), () -> model.turn()); break;
      case 12: same("round", () -> table.round(), () -> model.round); break;
      case 13: same("steps", () -> table.steps(), () -> model.steps()); break;
      case 14: same("canReact", () -> table.canReact(h), () -> model.canReact(h)); break;
      case 15: same("slots", () -> table.slots(h), () -> model.slots(h)); break;
      case 16: same("minds", () -> table.minds(h), () -> model.minds(h)); break;
      case 17: {
        int die = some(0, Math.max(0, model.told.size() - 1));
        int value = some(1, 20);
        same("again", () -> table.again(die, value, h), () -> model.again(die, value, h));
        break;
      }
      case 18: figures(); break;
      default: Expect.yes(name + ": isSound", table.isSound()); break;
    }
  }

  private void figures() {
    same("kept", () -> table.kept(), () -> model.calls.size());
    same("harmDone", () -> table.harmDone(), () -> model.taken);
    same("hitShare", () -> table.hitShare(), () -> model.hitShare());
    same("meanLife", () -> table.meanLife(), () -> model.meanLife());
  }
}
