import java.util.ArrayList;
import java.util.List;
import java.util.NoSuchElementException;
import java.util.function.Consumer;

/** The document told once more in the plainest way: nothing is counted ahead, all is looked up. */
final class Model {
  static final class Man {
    int side, life, most, initiative, x, y, spare, slots = 3;
    int[] base = {12, 4, 5, 4, 2};
    boolean[] immune = new boolean[6];
    boolean reaction;
    String readied = "";
  }

  static final class Cause {
    int man, size, rounds, whose, minder = -1;
    char what, type;
    boolean condition, harm, live = true;
  }

  final List<Man> men = new ArrayList<>();
  final List<Cause> causes = new ArrayList<>();
  final List<Integer> told = new ArrayList<>();
  final List<Consumer<Model>> calls = new ArrayList<>();
  final List<Integer> changed;
  final char[][] ground = new char[8][8];
  List<Integer> order = new ArrayList<>();
  int used = 0, at = -1, round = 0, steps = 0, shots = 0, hits = 0;
  boolean action = false;
  long taken = 0;

  Model() {
    this(List.of(-1, 0));
  }

  private Model(List<Integer> change) {
    changed = change;
    for (char[] row : ground) {
      java.util.Arrays.fill(row, '.');
    }
  }

  private static void index(boolean fine) {
    if (!fine) throw new IndexOutOfBoundsException();
  }

  private static void argument(boolean fine) {
    if (!fine) throw new IllegalArgumentException();
  }

  private static void state(boolean fine) {
    if (!fine) throw new IllegalStateException();
  }

  private static void possible(boolean fine) {
    if (!fine) throw new UnsupportedOperationException();
  }

  private static void element(boolean fine) {
    if (!fine) throw new NoSuchElementException();
  }

  private boolean isMan(int h) {
    return h >= 0 && h < men.size();
  }

  private static boolean in(int v, int a, int b) {
    return a <= v && v <= b;
  }

  private static boolean oneOf(String s, char c) {
    return s.indexOf(c) >= 0;
  }

  private int manAt(int x, int y) {
    for (int h = 0; h < men.size(); h++) {
      if (men.get(h).x == x && men.get(h).y == y) return h;
    }
    return -1;
  }

  int addHero(int side, int life, int initiative, int x, int y) {
    argument(in(side, 0, 1) && in(life, 1, 99) && in(initiative, 0, 30) && in(x, 0, 7) && in(y, 0, 7));
    state(men.size() < 6 && at < 0);
    possible(ground[y][x] != '#' && manAt(x, y) < 0);
    Man m = new Man();
    m.side = side;
    m.life = m.most = life;
    m.initiative = initiative;
    m.x = x;
    m.y = y;
    men.add(m);
    calls.add(o -> o.addHero(side, life, initiative, x, y));
    return men.size() - 1;
  }

  char setGround(int x, int y, char g) {
    argument(in(x, 0, 7) && in(y, 0, 7) && oneOf(".#~", g));
    possible(g != '#' || manAt(x, y) < 0);
    char before = ground[y][x];
    ground[y][x] = g;
    calls.add(o -> o.setGround(x, y, g));
    return before;
  }

  int setBase(int h, char n, int v) {
    index(isMan(h));
    argument(oneOf("atdsw", n) && in(v, -20, 40));
    int i = "atdsw".indexOf(n);
    int before = men.get(h).base[i];
    men.get(h).base[i] = v;
    calls.add(o -> o.setBase(h, n, v));
    return before;
  }

  int setSpare(int h, int v) {
    index(isMan(h));
    argument(in(v, 0, 50));
    int before = men.get(h).spare;
    men.get(h).spare = v;
    calls.add(o -> o.setSpare(h, v));
    return before;
  }

  int heal(int h, int v) {
    index(isMan(h));
    argument(in(v, 1, 99));
    Man m = men.get(h);
    m.life = Math.min(m.life + v, m.most);
    for (Cause c : causes) {
      if (c.man == h && c.harm) c.live = false;
    }
    calls.add(o -> o.heal(h, v));
    return m.life;
  }

  int lifeOf(int h) {
    index(isMan(h));
    return men.get(h).life;
  }

  int spareOf(int h) {
    index(isMan(h));
    return men.get(h).spare;
  }

  int cellOf(int h) {
    index(isMan(h));
    return 8 * men.get(h).y + men.get(h).x;
  }

  private static int far(int x, int y, int u, int v) {
    return Math.max(Math.abs(x - u), Math.abs(y - v));
  }

  private int far(int h, int o) {
    return far(men.get(h).x, men.get(h).y, men.get(o).x, men.get(o).y);
  }

  private boolean open(int x, int y, int u, int v) {
    int n = far(x, y, u, v);
    for (int k = 1; k < n; k++) {
      int column = (int) Math.floor(x + (u - x) * k / (double) n + 0.5);
      int row = (int) Math.floor(y + (v - y) * k / (double) n + 0.5);
      if (ground[row][column] == '#') return false;
    }
    return true;
  }

  boolean sees(int h, int x, int y) {
    index(isMan(h));
    argument(in(x, 0, 7) && in(y, 0, 7));
    return !has(h, 'b') && open(men.get(h).x, men.get(h).y, x, y);
  }

  private Cause cause(int h, char what, int size, int rounds, int whose) {
    Cause c = new Cause();
    c.man = h;
    c.what = what;
    c.size = size;
    c.rounds = rounds;
    c.whose = whose;
    causes.add(c);
    return c;
  }

  int addSource(int h, char n, char type, int amount, int rounds, int whose) {
    index(isMan(h) && isMan(whose));
    argument(oneOf("atdsw", n) && oneOf("umsop=", type) && in(rounds, 0, 9));
    argument(type == '=' ? in(amount, -20, 40) : in(amount, 1, 9));
    state(causes.size() < 60);
    cause(h, n, amount, rounds, whose).type = type;
    calls.add(o -> o.addSource(h, n, type, amount, rounds, whose));
    return causes.size() - 1;
  }

  int afflict(int h, char condition, int difficulty, int rounds, int whose) {
    index(isMan(h) && isMan(whose));
    argument(oneOf("psbihd", condition) && in(difficulty, 0, 30) && in(rounds, 0, 9));
    state(causes.size() < 60);
    cause(h, condition, difficulty, rounds, whose).condition = true;
    calls.add(o -> o.afflict(h, condition, difficulty, rounds, whose));
    return causes.size() - 1;
  }

  boolean endSource(int s) {
    index(in(s, 0, causes.size() - 1));
    boolean was = causes.get(s).live;
    causes.get(s).live = false;
    calls.add(o -> o.endSource(s));
    return was;
  }

  boolean setImmune(int h, char condition, boolean immune) {
    index(isMan(h));
    argument(oneOf("psbihd", condition));
    int i = "psbihd".indexOf(condition);
    boolean was = men.get(h).immune[i];
    men.get(h).immune[i] = immune;
    calls.add(o -> o.setImmune(h, condition, immune));
    return was;
  }

  boolean isLive(int s) {
    index(in(s, 0, causes.size() - 1));
    return causes.get(s).live;
  }

  int numberOf(int h, char n) {
    index(isMan(h));
    argument(oneOf("atdsw", n));
    int value = men.get(h).base["atdsw".indexOf(n)];
    for (Cause c : causes) {
      if (c.live && !c.condition && c.man == h && c.what == n && c.type == '=') value = c.size;
    }
    for (char type : "mso".toCharArray()) {
      value += causes.stream()
          .filter(c -> c.live && !c.condition && c.man == h && c.what == n && c.type == type)
          .mapToInt(c -> c.size).max().orElse(0);
    }
    for (Cause c : causes) {
      if (c.live && !c.condition && c.man == h && c.what == n) {
        value += c.type == 'u' ? c.size : c.type == 'p' ? -c.size : 0;
      }
    }
    return value;
  }

  boolean has(int h, char condition) {
    index(isMan(h));
    argument(oneOf("psbihd", condition));
    String tellers = condition == 's' ? "shd" : condition == 'p' ? "pd" : "" + condition;
    for (Cause c : causes) {
      if (c.live && c.condition && c.man == h && oneOf(tellers, c.what)
          && !men.get(h).immune["psbihd".indexOf(c.what)]) {
        return true;
      }
    }
    return false;
  }

  int tellDie(int die) {
    argument(in(die, 1, 20));
    boolean isChanged = changed.get(0) == told.size();
    told.add(isChanged ? changed.get(1) : Integer.valueOf(die));
    calls.add(o -> o.tellDie(die));
    return dice();
  }

  int dice() {
    return told.size() - used;
  }

  private int roll() {
    return used < told.size() ? told.get(used++) : 10;
  }

  private int check(int h) {
    return roll() + numberOf(h, 'w');
  }

  int begin() {
    element(!men.isEmpty());
    state(at < 0);
    order = new ArrayList<>();
    for (int i = 30; i >= 0; i--) {
      for (int h = 0; h < men.size(); h++) {
        if (men.get(h).initiative == i) order.add(h);
      }
    }
    men.forEach(m -> m.reaction = false);
    round = 1;
    calls.add(o -> o.begin());
    return turnOf(0);
  }

  private int turnOf(int place) {
    at = place;
    int h = order.get(place);
    for (Cause c : causes) {
      if (c.live && c.rounds > 0 && c.whose == h) {
        c.rounds--;
        c.live = c.rounds > 0;
      }
    }
    men.get(h).readied = "";
    men.get(h).reaction = true;
    action = true;
    steps = Math.max(0, numberOf(h, 's'));
    return h;
  }

  int endTurn() {
    state(at >= 0);
    calls.add(o -> o.endTurn());
    int h = turn();
    for (Cause c : causes) {
      if (c.live && c.condition && c.man == h && c.size > 0 && check(h) >= c.size) c.live = false;
    }
    if (at == order.size() - 1) {
      round++;
      return turnOf(0);
    }
    return turnOf(at + 1);
  }

  int rest() {
    state(at >= 0);
    calls.add(o -> o.rest());
    at = -1;
    round = 0;
    men.forEach(m -> m.slots = 3);
    int ended = 0;
    for (Cause c : causes) {
      if (c.live && c.rounds > 0) {
        c.live = false;
        ended++;
      }
    }
    return ended;
  }

  int turn() {
    element(at >= 0);
    return order.get(at);
  }

  int steps() {
    element(at >= 0);
    return steps;
  }

  boolean canReact(int h) {
    index(isMan(h));
    return men.get(h).reaction && !men.get(h).readied.isEmpty();
  }

  /** What the hero readied for this trigger, which is gone then; empty if it does not react. */
  private String takeReaction(int h, char trigger) {
    Man m = men.get(h);
    if (!canReact(h) || m.readied.charAt(0) != trigger || has(h, 's')) return "";
    String readied = m.readied;
    m.readied = "";
    m.reaction = false;
    return readied;
  }

  int attack(int other) {
    index(isMan(other));
    state(at >= 0);
    possible(action && !has(turn(), 's') && far(turn(), other) == 1);
    calls.add(o -> o.attack(other));
    action = false;
    return assault(turn(), other);
  }

  private int assault(int h, int other) {
    int armour = 0;
    for (int r : order) {
      if (r == h || men.get(r).side != men.get(other).side) continue;
      String readied = takeReaction(r, 'a');
      if (readied.equals("ag") && far(r, other) < 2) armour += 2;
      if (readied.equals("as") && far(r, h) == 1) assault(r, h);
    }
    if (has(h, 's') || has(h, 'd') || has(other, 'd')) return -2;
    armour += numberOf(other, 'a');
    boolean plus = has(other, 'p') || has(other, 's') || has(h, 'i');
    boolean minus = has(h, 'b') || has(h, 'p') || has(other, 'i');
    int die = roll();
    if (plus && !minus) die = Math.max(die, roll());
    if (minus && !plus) die = Math.min(die, roll());
    shots++;
    if (die != 20 && (die == 1 || die + numberOf(h, 't') < armour)) return -1;
    hits++;
    int damage = Math.max(0, numberOf(h, 'd')) * (die == 20 ? 2 : 1);
    harm(other, damage);
    return damage;
  }

  private void harm(int h, int harm) {
    Man m = men.get(h);
    for (int i = 0; i < harm; i++) {
      if (m.spare > 0) {
        m.spare--;
        taken++;
      } else if (m.life > 0) {
        m.life--;
        taken++;
      }
    }
    if (m.life == 0 && causes.stream().noneMatch(
        c -> c.live && c.condition && c.man == h && c.what == 'd' && c.rounds == 0)) {
      Cause c = cause(h, 'd', 0, 0, h);
      c.condition = true;
      c.harm = true;
    }
    if (harm > 0 && minds(h)) {
      if (has(h, 'd')) {
        forget(h);
      } else {
        int check = check(h);
        if (check < 10 || check < harm / 2) forget(h);
      }
    }
  }

  private void forget(int h) {
    for (Cause c : causes) {
      if (c.minder == h) c.live = false;
    }
  }

  boolean step(int dx, int dy) {
    argument(in(dx, -1, 1) && in(dy, -1, 1) && (dx != 0 || dy != 0));
    state(at >= 0);
    int h = turn();
    Man m = men.get(h);
    int x = m.x + dx;
    int y = m.y + dy;
    possible(!has(h, 's') && in(x, 0, 7) && in(y, 0, 7));
    possible(ground[y][x] != '#' && manAt(x, y) < 0);
    int cost = ground[y][x] == '~' ? 2 : 1;
    if (has(h, 'p')) cost++;
    possible(cost <= steps);
    calls.add(o -> o.step(dx, dy));
    steps -= cost;
    int oldX = m.x;
    int oldY = m.y;
    m.x = x;
    m.y = y;
    for (int r : order) {
      Man w = men.get(r);
      if (w.side != m.side && far(r, h) == 1 && far(w.x, w.y, oldX, oldY) != 1
          && takeReaction(r, 'm').equals("ms")) {
        assault(r, h);
      }
    }
    return !has(h, 'd');
  }

  boolean stand() {
    state(at >= 0);
    int h = turn();
    possible(!has(h, 's') && steps >= 2);
    calls.add(o -> o.stand());
    steps -= 2;
    boolean was = false;
    for (Cause c : causes) {
      if (c.live && c.condition && c.man == h && c.what == 'p') {
        c.live = false;
        was = true;
      }
    }
    return was;
  }

  boolean ready(char trigger, char reaction) {
    String both = "" + trigger + reaction;
    argument(List.of("ag", "as", "ms", "cx", "cs").contains(both));
    state(at >= 0);
    int h = turn();
    possible(action && !has(h, 's'));
    calls.add(o -> o.ready(trigger, reaction));
    action = false;
    men.get(h).readied = both;
    for (int o = 0; o < men.size(); o++) {
      if (o != h && men.get(o).side == men.get(h).side && canReact(o)
          && men.get(o).readied.charAt(0) == trigger) {
        return true;
      }
    }
    return false;
  }

  char cast(char spell, int x, int y) {
    argument(oneOf("bfhs", spell) && (spell == 's' || (in(x, 0, 7) && in(y, 0, 7))));
    state(at >= 0);
    int h = turn();
    Man m = men.get(h);
    possible(action && !has(h, 's') && m.slots > 0 && (spell == 's' || sees(h, x, y)));
    calls.add(o -> o.cast(spell, x, y));
    action = false;
    boolean undone = false;
    for (int r : order) {
      if (men.get(r).side == m.side) continue;
      String readied = takeReaction(r, 'c');
      if (readied.equals("cx") && sees(r, m.x, m.y)) undone |= check(r) >= 12;
      if (readied.equals("cs") && far(r, h) == 1) assault(r, h);
    }
    if (undone) return 'u';
    if (has(h, 's')) return 'n';
    m.slots--;
    if (spell == 'b' || spell == 'h') forget(h);
    if (spell == 's') cause(h, 'a', 4, 1, h).type = 's';
    char answer = spell == 'h' ? 'n' : 'd';
    for (int o = 0; o < men.size(); o++) {
      Man near = men.get(o);
      int n = far(near.x, near.y, x, y);
      if (spell == 'b' && near.side == m.side && n <= 2) {
        Cause c = cause(o, 't', 1, 0, h);
        c.type = 'o';
        c.minder = h;
      }
      if (spell == 'f' && n <= 1 && open(x, y, near.x, near.y)) harm(o, check(o) < 12 ? 6 : 3);
      if (spell == 'h' && near.side != m.side && n == 0 && check(o) < 12) {
        Cause c = cause(o, 'h', 12, 0, h);
        c.condition = true;
        c.minder = h;
        answer = 'd';
      }
    }
    return answer;
  }

  int slots(int h) {
    index(isMan(h));
    return men.get(h).slots;
  }

  boolean minds(int h) {
    index(isMan(h));
    return causes.stream().anyMatch(c -> c.live && c.minder == h);
  }

  int again(int die, int value, int h) {
    index(in(die, 0, told.size() - 1) && isMan(h));
    argument(in(value, 1, 20));
    Model other = new Model(List.of(die, value));
    for (Consumer<Model> call : calls) {
      try {
        call.accept(other);
      } catch (RuntimeException e) {
        // What throws there is left out.
      }
    }
    return other.isMan(h) ? other.lifeOf(h) : -1;
  }

  float hitShare() {
    if (shots == 0) throw new ArithmeticException();
    return (float) hits / (float) shots;
  }

  double meanLife() {
    if (men.isEmpty()) throw new ArithmeticException();
    return (double) men.stream().mapToInt(m -> m.life).sum() / (double) men.size();
  }
}
