import java.util.Arrays;
import java.util.NoSuchElementException;

/** A table of heroes. What each call promises is told in ../shared/DOC.md. */
public final class HeroTable {
  private static final int MOST_HEROES = 6;
  private static final int MOST_TOLD_SOURCES = 60;
  private static final int MOST_CALLS = 512;
  private static final int WIDTH = 8;
  private static final int FULL_SLOTS = 3;

  // The signs of the document; a sign's place in its text is its index.
  private static final String NUMBERS = "atdsw";
  private static final String CONDITIONS = "psbihd";
  private static final String TYPES = "umsop=";
  private static final String GROUNDS = ".#~";
  private static final String SPELLS = "bfhs";

  private static final int ARMOUR = 0;
  private static final int ATTACK = 1;
  private static final int DAMAGE = 2;
  private static final int SPEED = 3;
  private static final int WILL = 4;

  private static final int PRONE = 0;
  private static final int STUNNED = 1;
  private static final int BLIND = 2;
  private static final int INVISIBLE = 3;
  private static final int HELD = 4;
  private static final int DOWN = 5;

  private static final int[] FIRST_BASES = {12, 4, 5, 4, 2};

  private static final int NOBODY = -1;
  private static final int NO_TURN = -1;
  private static final char NOTHING_READIED = ' ';
  private static final int MISSED = -1;
  private static final int CAME_TO_NOTHING = -2;

  // What the table answers to a call that it refuses; every true answer is far above.
  private static final int NO_INDEX = -1000001;
  private static final int BAD_ARGUMENT = -1000002;
  private static final int BAD_STATE = -1000003;
  private static final int UNSUPPORTED = -1000004;
  private static final int NO_ELEMENT = -1000005;

  // The calls that tell something, as the transcript keeps them.
  private static final int ADD_HERO = 0;
  private static final int SET_GROUND = 1;
  private static final int SET_BASE = 2;
  private static final int SET_SPARE = 3;
  private static final int HEAL = 4;
  private static final int ADD_SOURCE = 5;
  private static final int AFFLICT = 6;
  private static final int END_SOURCE = 7;
  private static final int SET_IMMUNE = 8;
  private static final int TELL_DIE = 9;
  private static final int BEGIN = 10;
  private static final int END_TURN = 11;
  private static final int REST = 12;
  private static final int ATTACK_OTHER = 13;
  private static final int STEP = 14;
  private static final int STAND = 15;
  private static final int READY = 16;
  private static final int CAST = 17;

  private final Table table = new Table();
  // Every replay is played on this one table, so that replays make no objects.
  private final Table replayed = new Table();
  private final Transcript transcript = new Transcript();

  public HeroTable() {
  }

  // ---- heroes and cells

  public int addHero(int side, int life, int initiative, int x, int y)
      throws IllegalArgumentException, IllegalStateException, UnsupportedOperationException {
    int answer = answered(table.enrol(side, life, initiative, x, y));
    transcript.keep(ADD_HERO, side, life, initiative, x, y, 0);
    return answer;
  }

  public char setGround(int x, int y, char ground)
      throws IllegalArgumentException, UnsupportedOperationException {
    int answer = answered(table.layGround(x, y, ground));
    transcript.keep(SET_GROUND, x, y, ground, 0, 0, 0);
    return (char) answer;
  }

  public int setBase(int hero, char number, int value)
      throws IndexOutOfBoundsException, IllegalArgumentException {
    int answer = answered(table.changeBase(hero, number, value));
    transcript.keep(SET_BASE, hero, number, value, 0, 0, 0);
    return answer;
  }

  public int setSpare(int hero, int life)
      throws IndexOutOfBoundsException, IllegalArgumentException {
    int answer = answered(table.changeSpare(hero, life));
    transcript.keep(SET_SPARE, hero, life, 0, 0, 0, 0);
    return answer;
  }

  public int heal(int hero, int life) throws IndexOutOfBoundsException, IllegalArgumentException {
    int answer = answered(table.mend(hero, life));
    transcript.keep(HEAL, hero, life, 0, 0, 0, 0);
    return answer;
  }

  public int lifeOf(int hero) throws IndexOutOfBoundsException {
    return knownHero(hero).life;
  }

  public int spareOf(int hero) throws IndexOutOfBoundsException {
    return knownHero(hero).spare;
  }

  public int cellOf(int hero) throws IndexOutOfBoundsException {
    Hero known = knownHero(hero);
    return 8 * known.y + known.x;
  }

  public boolean sees(int hero, int x, int y)
      throws IndexOutOfBoundsException, IllegalArgumentException {
    Hero known = knownHero(hero);
    if (!Ground.isCell(x, y)) {
      throw new IllegalArgumentException("no such cell");
    }
    return table.isSeenBy(known, x, y);
  }

  // ---- numbers and conditions

  public int addSource(int hero, char number, char type, int amount, int rounds, int whose)
      throws IndexOutOfBoundsException, IllegalArgumentException, IllegalStateException {
    int answer = answered(table.tellBonus(hero, number, type, amount, rounds, whose));
    transcript.keep(ADD_SOURCE, hero, number, type, amount, rounds, whose);
    return answer;
  }

  public int afflict(int hero, char condition, int difficulty, int rounds, int whose)
      throws IndexOutOfBoundsException, IllegalArgumentException, IllegalStateException {
    int answer = answered(table.tellCondition(hero, condition, difficulty, rounds, whose));
    transcript.keep(AFFLICT, hero, condition, difficulty, rounds, whose, 0);
    return answer;
  }

  public boolean endSource(int source) throws IndexOutOfBoundsException {
    int answer = answered(table.quench(source));
    transcript.keep(END_SOURCE, source, 0, 0, 0, 0, 0);
    return answer == 1;
  }

  public boolean setImmune(int hero, char condition, boolean isImmune)
      throws IndexOutOfBoundsException, IllegalArgumentException {
    int immune = isImmune ? 1 : 0;
    int answer = answered(table.changeImmunity(hero, condition, immune));
    transcript.keep(SET_IMMUNE, hero, condition, immune, 0, 0, 0);
    return answer == 1;
  }

  public boolean isLive(int source) throws IndexOutOfBoundsException {
    if (!table.sources.isSource(source)) {
      throw new IndexOutOfBoundsException("no such source");
    }
    return table.sources.isLiveAt(source);
  }

  public int numberOf(int hero, char number)
      throws IndexOutOfBoundsException, IllegalArgumentException {
    knownHero(hero);
    return table.sources.number(hero, knownSign(NUMBERS, number));
  }

  public int numberAnew(int hero, char number)
      throws IndexOutOfBoundsException, IllegalArgumentException {
    knownHero(hero);
    return table.sources.gather(hero, knownSign(NUMBERS, number));
  }

  public boolean has(int hero, char condition)
      throws IndexOutOfBoundsException, IllegalArgumentException {
    Hero known = knownHero(hero);
    return known.suffers(knownSign(CONDITIONS, condition));
  }

  public int sources() {
    return table.sources.count;
  }

  // ---- dice and turns

  public int tellDie(int die) throws IllegalArgumentException {
    int answer = answered(table.hearDie(die));
    transcript.keep(TELL_DIE, die, 0, 0, 0, 0, 0);
    return answer;
  }

  public int dice() {
    return table.dice.left();
  }

  public int begin() throws NoSuchElementException, IllegalStateException {
    int answer = answered(table.startFight());
    transcript.keep(BEGIN, 0, 0, 0, 0, 0, 0);
    return answer;
  }

  public int endTurn() throws IllegalStateException {
    int answer = answered(table.passTurn());
    transcript.keep(END_TURN, 0, 0, 0, 0, 0, 0);
    return answer;
  }

  public int rest() throws IllegalStateException {
    int answer = answered(table.stopFight());
    transcript.keep(REST, 0, 0, 0, 0, 0, 0);
    return answer;
  }

  public int turn() throws NoSuchElementException {
    if (!table.isTurnOn()) {
      throw new NoSuchElementException("no turn is on");
    }
    return table.actor();
  }

  public int round() {
    return table.roundNow;
  }

  public int steps() throws NoSuchElementException {
    if (!table.isTurnOn()) {
      throw new NoSuchElementException("no turn is on");
    }
    return table.stepsLeft;
  }

  public boolean canReact(int hero) throws IndexOutOfBoundsException {
    Hero known = knownHero(hero);
    return known.hasReaction && known.trigger != NOTHING_READIED;
  }

  // ---- acts of the hero whose turn it is

  public int attack(int other)
      throws IndexOutOfBoundsException, IllegalStateException, UnsupportedOperationException {
    int answer = answered(table.assail(other));
    transcript.keep(ATTACK_OTHER, other, 0, 0, 0, 0, 0);
    return answer;
  }

  public boolean step(int dx, int dy)
      throws IllegalArgumentException, IllegalStateException, UnsupportedOperationException {
    int answer = answered(table.walk(dx, dy));
    transcript.keep(STEP, dx, dy, 0, 0, 0, 0);
    return answer == 1;
  }

  public boolean stand() throws IllegalStateException, UnsupportedOperationException {
    int answer = answered(table.rise());
    transcript.keep(STAND, 0, 0, 0, 0, 0, 0);
    return answer == 1;
  }

  public boolean ready(char trigger, char reaction)
      throws IllegalArgumentException, IllegalStateException, UnsupportedOperationException {
    int answer = answered(table.prepare(trigger, reaction));
    transcript.keep(READY, trigger, reaction, 0, 0, 0, 0);
    return answer == 1;
  }

  public char cast(char spell, int x, int y)
      throws IllegalArgumentException, IllegalStateException, UnsupportedOperationException {
    int answer = answered(table.castSpell(spell, x, y));
    transcript.keep(CAST, spell, x, y, 0, 0, 0);
    return (char) answer;
  }

  public int slots(int hero) throws IndexOutOfBoundsException {
    return knownHero(hero).slotsLeft;
  }

  public boolean minds(int hero) throws IndexOutOfBoundsException {
    return knownHero(hero).minded > 0;
  }

  // ---- figures

  public int kept() {
    return transcript.count;
  }

  public int again(int die, int value, int hero)
      throws IndexOutOfBoundsException, IllegalArgumentException {
    if (die < 0 || die >= table.dice.told) {
      throw new IndexOutOfBoundsException("no such die was told");
    }
    knownHero(hero);
    if (value < 1 || value > 20) {
      throw new IllegalArgumentException("no such die");
    }
    transcript.playOn(replayed, die, value);
    return replayed.isHero(hero) ? replayed.heroes[hero].life : -1;
  }

  public long harmDone() {
    return table.harmTaken;
  }

  public float hitShare() throws ArithmeticException {
    if (table.rolledAttacks == 0) {
      throw new ArithmeticException("no attack with a die");
    }
    return (float) table.hits / (float) table.rolledAttacks;
  }

  public double meanLife() throws ArithmeticException {
    if (table.heroCount == 0) {
      throw new ArithmeticException("no heroes");
    }
    int sum = 0;
    for (int i = 0; i < table.heroCount; i++) {
      sum += table.heroes[i].life;
    }
    return (double) sum / (double) table.heroCount;
  }

  public boolean isSound() {
    if (!table.areNumbersSound() || !table.sources.areMinded() || !table.areCellsSingle()) {
      return false;
    }
    transcript.playOn(replayed, -1, 0);
    return table.hasLivesOf(replayed);
  }

  // ---- refusals

  /** Throws what a refused call is to throw; any other answer is handed on. */
  private static int answered(int answer) {
    if (answer == NO_INDEX) {
      throw new IndexOutOfBoundsException("no such hero or source");
    }
    if (answer == BAD_ARGUMENT) {
      throw new IllegalArgumentException("no such sign or cell, or out of range");
    }
    if (answer == BAD_STATE) {
      throw new IllegalStateException("not in this state");
    }
    if (answer == UNSUPPORTED) {
      throw new UnsupportedOperationException("this can not be done now");
    }
    if (answer == NO_ELEMENT) {
      throw new NoSuchElementException("no heroes");
    }
    return answer;
  }

  private Hero knownHero(int hero) {
    if (!table.isHero(hero)) {
      throw new IndexOutOfBoundsException("no such hero");
    }
    return table.heroes[hero];
  }

  private static int knownSign(String signs, char sign) {
    int index = signs.indexOf(sign);
    if (index < 0) {
      throw new IllegalArgumentException("no such number or condition");
    }
    return index;
  }

  /** One hero: what it is, what it has left, and what its sources make of it. */
  private static final class Hero {
    int side;
    int life;
    int greatestLife;
    int initiative;
    int x;
    int y;
    int spare;
    int slotsLeft;
    int minded;
    boolean hasReaction;
    char trigger;
    char reaction;
    final int[] bases = new int[5];
    final int[] numbers = new int[5];
    final boolean[] isStale = new boolean[5];
    final int[] afflictions = new int[6];
    final boolean[] isImmune = new boolean[6];

    void start(int itsSide, int itsLife, int itsInitiative, int column, int row) {
      side = itsSide;
      life = itsLife;
      greatestLife = itsLife;
      initiative = itsInitiative;
      x = column;
      y = row;
      spare = 0;
      slotsLeft = FULL_SLOTS;
      minded = 0;
      hasReaction = false;
      trigger = NOTHING_READIED;
      reaction = NOTHING_READIED;
      System.arraycopy(FIRST_BASES, 0, bases, 0, 5);
      System.arraycopy(FIRST_BASES, 0, numbers, 0, 5);
      Arrays.fill(afflictions, 0);
      for (int i = 0; i < isStale.length; i++) {
        isStale[i] = false;
      }
      for (int i = 0; i < isImmune.length; i++) {
        isImmune[i] = false;
      }
    }

    // An immunity counts against what a source tells, not against what that implies.
    boolean suffers(int condition) {
      boolean isDown = afflictions[DOWN] > 0 && !isImmune[DOWN];
      if (isDown && (condition == STUNNED || condition == PRONE)) {
        return true;
      }
      if (condition == STUNNED && afflictions[HELD] > 0 && !isImmune[HELD]) {
        return true;
      }
      return afflictions[condition] > 0 && !isImmune[condition];
    }

    boolean isReadyFor(char call) {
      return hasReaction && trigger == call;
    }

    /** Uses the reaction up, if there is one to this trigger. */
    boolean reactsTo(char call) {
      if (!isReadyFor(call) || suffers(STUNNED)) {
        return false;
      }
      hasReaction = false;
      trigger = NOTHING_READIED;
      return true;
    }

    int distanceTo(int column, int row) {
      return Ground.distance(x, y, column, row);
    }
  }

  /** One source, of a number or of a condition. */
  private static final class Source {
    int hero;
    boolean isCondition;
    int what;
    char type;
    // What it changes a number by; of a condition the difficulty.
    int amount;
    int rounds;
    int whose;
    int minder;
    boolean isByHarm;
    boolean isLive;
  }

  /** All sources there were, and what follows for the heroes when they come and go. */
  private static final class Sources {
    // One call adds 12 at the most: 6 of a spell, and each of 6 heroes comes down once.
    private static final int ROOM = 16;
    private static final int MOST_ROWS = 8192;

    private final Hero[] heroes;
    private Source[] rows = new Source[0];
    int count;

    Sources(Hero[] itsHeroes) {
      heroes = itsHeroes;
    }

    void clear() {
      count = 0;
    }

    boolean isSource(int source) {
      return source >= 0 && source < count;
    }

    boolean isLiveAt(int source) {
      return isSource(source) && rows[source].isLive;
    }

    /** Makes rows for all that one call can add, so that none is made further on. */
    void makeRoom() {
      if (rows.length - count >= ROOM || rows.length >= MOST_ROWS) {
        return;
      }
      Source[] more = new Source[Math.min(MOST_ROWS, 2 * rows.length + ROOM)];
      for (int i = 0; i < more.length; i++) {
        more[i] = i < rows.length ? rows[i] : new Source();
      }
      rows = more;
    }

    void addBonus(int hero, int number, char type, int amount, int rounds, int whose, int minder) {
      if (count >= rows.length) {
        return;
      }
      Source row = rows[count];
      count++;
      row.hero = hero;
      row.isCondition = false;
      row.what = number;
      row.type = type;
      row.amount = amount;
      row.rounds = rounds;
      row.whose = whose;
      row.minder = minder;
      row.isByHarm = false;
      row.isLive = true;
      heroes[hero].isStale[number] = true;
      if (minder != NOBODY) {
        heroes[minder].minded++;
      }
    }

    void addCondition(int hero, int condition, int difficulty, int rounds, int whose, int minder) {
      if (count >= rows.length) {
        return;
      }
      Source row = rows[count];
      count++;
      row.hero = hero;
      row.isCondition = true;
      row.what = condition;
      row.type = ' ';
      row.amount = difficulty;
      row.rounds = rounds;
      row.whose = whose;
      row.minder = minder;
      row.isByHarm = false;
      row.isLive = true;
      heroes[hero].afflictions[condition]++;
      if (minder != NOBODY) {
        heroes[minder].minded++;
      }
    }

    /** Adds a lasting source of being down by harm, if none that lasts is there. */
    void addDown(int hero) {
      for (int i = 0; i < count; i++) {
        if (tellsCondition(rows[i], hero, DOWN) && rows[i].rounds == 0) {
          return;
        }
      }
      int added = count;
      addCondition(hero, DOWN, 0, 0, hero, NOBODY);
      if (added < count) {
        rows[added].isByHarm = true;
      }
    }

    boolean end(int source) {
      if (source < 0 || source >= count || !rows[source].isLive) {
        return false;
      }
      Source row = rows[source];
      row.isLive = false;
      if (row.isCondition) {
        heroes[row.hero].afflictions[row.what]--;
      } else {
        heroes[row.hero].isStale[row.what] = true;
      }
      if (row.minder != NOBODY) {
        heroes[row.minder].minded--;
      }
      return true;
    }

    private static boolean tellsCondition(Source row, int hero, int condition) {
      return row.isLive && row.isCondition && row.hero == hero && row.what == condition;
    }

    void endMinded(int minder) {
      for (int i = 0; i < count; i++) {
        if (rows[i].minder == minder) {
          end(i);
        }
      }
    }

    void endDownByHarm(int hero) {
      for (int i = 0; i < count; i++) {
        if (rows[i].isByHarm && rows[i].hero == hero) {
          end(i);
        }
      }
    }

    boolean endProne(int hero) {
      boolean wasProne = false;
      for (int i = 0; i < count; i++) {
        if (tellsCondition(rows[i], hero, PRONE)) {
          end(i);
          wasProne = true;
        }
      }
      return wasProne;
    }

    /** Ends all that last for rounds, and tells how many these were. */
    int endTimed() {
      int ended = 0;
      for (int i = 0; i < count; i++) {
        if (rows[i].rounds > 0 && end(i)) {
          ended++;
        }
      }
      return ended;
    }

    /** A turn of this hero begins: what lasts for its rounds has one less. */
    void passRound(int hero) {
      for (int i = 0; i < count; i++) {
        Source row = rows[i];
        if (row.isLive && row.rounds > 0 && row.whose == hero) {
          row.rounds--;
          if (row.rounds == 0) {
            end(i);
          }
        }
      }
    }

    /** The difficulty against which this hero checks this source; 0 for none. */
    int difficultyFor(int hero, int source) {
      if (!isLiveAt(source)) {
        return 0;
      }
      Source row = rows[source];
      return row.isCondition && row.hero == hero ? row.amount : 0;
    }

    int number(int hero, int number) {
      Hero changed = heroes[hero];
      if (changed.isStale[number]) {
        changed.numbers[number] = gather(hero, number);
        changed.isStale[number] = false;
      }
      return changed.numbers[number];
    }

    int gather(int hero, int number) {
      int base = heroes[hero].bases[number];
      int sum = 0;
      int bestM = 0;
      int bestS = 0;
      int bestO = 0;
      for (int i = 0; i < count; i++) {
        Source row = rows[i];
        if (!row.isLive || row.isCondition || row.hero != hero || row.what != number) {
          continue;
        }
        if (row.type == 'u') {
          sum += row.amount;
        } else if (row.type == 'p') {
          sum -= row.amount;
        } else if (row.type == 'm') {
          bestM = row.amount > bestM ? row.amount : bestM;
        } else if (row.type == 's') {
          bestS = row.amount > bestS ? row.amount : bestS;
        } else if (row.type == 'o') {
          bestO = row.amount > bestO ? row.amount : bestO;
        } else {
          base = row.amount;
        }
      }
      return base + sum + bestM + bestS + bestO;
    }

    /** Whether each live source that is minded has a hero who minds a spell. */
    boolean areMinded() {
      for (int i = 0; i < count; i++) {
        Source row = rows[i];
        if (row.isLive && row.minder != NOBODY && heroes[row.minder].minded <= 0) {
          return false;
        }
      }
      return true;
    }
  }

  /** The cells, and what walls hide. */
  private static final class Ground {
    private final char[] cells = new char[64];

    static boolean isCell(int x, int y) {
      return x >= 0 && x < 8 && y >= 0 && y < 8;
    }

    static int distance(int x, int y, int otherX, int otherY) {
      return Math.max(Math.abs(x - otherX), Math.abs(y - otherY));
    }

    void level() {
      for (int i = 0; i < cells.length; i++) {
        cells[i] = '.';
      }
    }

    // Behind the edge there is nothing to go to, as with a wall.
    char at(int x, int y) {
      return isCell(x, y) ? cells[8 * y + x] : '#';
    }

    void lay(int x, int y, char ground) {
      if (isCell(x, y)) {
        cells[8 * y + x] = ground;
      }
    }

    boolean isOpenBetween(int x, int y, int toX, int toY) {
      int n = distance(x, y, toX, toY);
      for (int k = 1; k < n; k++) {
        int column = x + nearest((toX - x) * k, n);
        int row = y + nearest((toY - y) * k, n);
        if (at(column, row) == '#') {
          return false;
        }
      }
      return true;
    }

    /** The whole number nearest to a share, of two the greater one. */
    private static int nearest(int part, int whole) {
      return whole > 0 ? Math.floorDiv(2 * part + whole, 2 * whole) : 0;
    }
  }

  /** The dice that are told ahead. */
  private static final class Dice {
    private static final int WITHOUT_ANY = 10;

    private int[] values = new int[16];
    int told;
    private int used;

    void clear() {
      told = 0;
      used = 0;
    }

    void hear(int die) {
      if (told >= MOST_CALLS) {
        return;
      }
      if (told >= values.length) {
        values = Arrays.copyOf(values, 2 * told);
      }
      values[told] = die;
      told++;
    }

    int left() {
      return told - used;
    }

    int roll() {
      if (used >= told) {
        return WITHOUT_ANY;
      }
      int die = values[used];
      used++;
      return die;
    }
  }

  /** The calls that told something, to be played again. */
  private static final class Transcript {
    private int[] rows = new int[16 * WIDTH];
    int count;

    void keep(int call, int a, int b, int c, int d, int e, int f) {
      if (count >= MOST_CALLS) {
        return;
      }
      int at = count * WIDTH;
      if (at + WIDTH > rows.length) {
        rows = Arrays.copyOf(rows, 2 * rows.length);
      }
      rows[at] = call;
      rows[at + 1] = a;
      rows[at + 2] = b;
      rows[at + 3] = c;
      rows[at + 4] = d;
      rows[at + 5] = e;
      rows[at + 6] = f;
      count++;
    }

    /** Plays all calls on a cleared table; the die of this number, if any, is told as the value. */
    void playOn(Table table, int die, int value) {
      table.clear();
      int told = 0;
      for (int i = 0; i < count; i++) {
        int at = i * WIDTH;
        int a = rows[at + 1];
        int b = rows[at + 2];
        int c = rows[at + 3];
        int d = rows[at + 4];
        int e = rows[at + 5];
        switch (rows[at]) {
          case ADD_HERO: table.enrol(a, b, c, d, e); break;
          case SET_GROUND: table.layGround(a, b, (char) c); break;
          case SET_BASE: table.changeBase(a, (char) b, c); break;
          case SET_SPARE: table.changeSpare(a, b); break;
          case HEAL: table.mend(a, b); break;
          case ADD_SOURCE: table.tellBonus(a, (char) b, (char) c, d, e, rows[at + 6]); break;
          case AFFLICT: table.tellCondition(a, (char) b, c, d, e); break;
          case END_SOURCE: table.quench(a); break;
          case SET_IMMUNE: table.changeImmunity(a, (char) b, c); break;
          case TELL_DIE: table.hearDie(told == die ? value : a); told++; break;
          case BEGIN: table.startFight(); break;
          case END_TURN: table.passTurn(); break;
          case REST: table.stopFight(); break;
          case ATTACK_OTHER: table.assail(a); break;
          case STEP: table.walk(a, b); break;
          case STAND: table.rise(); break;
          case READY: table.prepare((char) a, (char) b); break;
          case CAST: table.castSpell((char) a, b, c); break;
          default: break;
        }
      }
    }
  }

  /** The game: each call answers as the document says, or with a refusal and no change. */
  private static final class Table {
    final Hero[] heroes = new Hero[MOST_HEROES];
    final Sources sources = new Sources(heroes);
    final Ground ground = new Ground();
    final Dice dice = new Dice();
    int heroCount;
    private final int[] order = new int[MOST_HEROES];
    private int turnAt;
    int roundNow;
    int stepsLeft;
    private boolean hasAction;
    long harmTaken;
    int rolledAttacks;
    int hits;

    Table() {
      for (int i = 0; i < MOST_HEROES; i++) {
        heroes[i] = new Hero();
      }
      ground.level();
      turnAt = NO_TURN;
    }

    void clear() {
      heroCount = 0;
      sources.clear();
      ground.level();
      dice.clear();
      turnAt = NO_TURN;
      roundNow = 0;
      stepsLeft = 0;
      hasAction = false;
      harmTaken = 0;
      rolledAttacks = 0;
      hits = 0;
    }

    // -- heroes and cells

    boolean isHero(int hero) {
      return hero >= 0 && hero < heroCount;
    }

    int enrol(int side, int life, int initiative, int x, int y) {
      if (side < 0 || side > 1 || life < 1 || life > 99 || initiative < 0 || initiative > 30
          || !Ground.isCell(x, y)) {
        return BAD_ARGUMENT;
      }
      if (heroCount >= MOST_HEROES || isTurnOn()) {
        return BAD_STATE;
      }
      if (ground.at(x, y) == '#' || heroAt(x, y) != NOBODY) {
        return UNSUPPORTED;
      }
      heroes[heroCount].start(side, life, initiative, x, y);
      heroCount++;
      return heroCount - 1;
    }

    private int heroAt(int x, int y) {
      for (int i = 0; i < heroCount; i++) {
        if (heroes[i].x == x && heroes[i].y == y) {
          return i;
        }
      }
      return NOBODY;
    }

    int layGround(int x, int y, char kind) {
      if (!Ground.isCell(x, y) || GROUNDS.indexOf(kind) < 0) {
        return BAD_ARGUMENT;
      }
      if (kind == '#' && heroAt(x, y) != NOBODY) {
        return UNSUPPORTED;
      }
      int before = ground.at(x, y);
      ground.lay(x, y, kind);
      return before;
    }

    int changeBase(int hero, char sign, int value) {
      if (!isHero(hero)) {
        return NO_INDEX;
      }
      int number = NUMBERS.indexOf(sign);
      if (number < 0 || value < -20 || value > 40) {
        return BAD_ARGUMENT;
      }
      Hero changed = heroes[hero];
      int before = changed.bases[number];
      changed.bases[number] = value;
      changed.isStale[number] = true;
      return before;
    }

    int changeSpare(int hero, int life) {
      if (!isHero(hero)) {
        return NO_INDEX;
      }
      if (life < 0 || life > 50) {
        return BAD_ARGUMENT;
      }
      int before = heroes[hero].spare;
      heroes[hero].spare = life;
      return before;
    }

    int mend(int hero, int life) {
      if (!isHero(hero)) {
        return NO_INDEX;
      }
      if (life < 1 || life > 99) {
        return BAD_ARGUMENT;
      }
      Hero healed = heroes[hero];
      healed.life = Math.min(healed.greatestLife, healed.life + life);
      sources.endDownByHarm(hero);
      return healed.life;
    }

    boolean isSeenBy(Hero hero, int x, int y) {
      return !hero.suffers(BLIND) && ground.isOpenBetween(hero.x, hero.y, x, y);
    }

    private int distance(int hero, int other) {
      return Ground.distance(heroes[hero].x, heroes[hero].y, heroes[other].x, heroes[other].y);
    }

    // -- numbers and conditions

    int tellBonus(int hero, char sign, char type, int amount, int rounds, int whose) {
      if (!isHero(hero) || !isHero(whose)) {
        return NO_INDEX;
      }
      int number = NUMBERS.indexOf(sign);
      int least = type == '=' ? -20 : 1;
      int most = type == '=' ? 40 : 9;
      if (number < 0 || TYPES.indexOf(type) < 0 || amount < least || amount > most
          || rounds < 0 || rounds > 9) {
        return BAD_ARGUMENT;
      }
      if (sources.count >= MOST_TOLD_SOURCES) {
        return BAD_STATE;
      }
      sources.makeRoom();
      sources.addBonus(hero, number, type, amount, rounds, whose, NOBODY);
      return sources.count - 1;
    }

    int tellCondition(int hero, char sign, int difficulty, int rounds, int whose) {
      if (!isHero(hero) || !isHero(whose)) {
        return NO_INDEX;
      }
      int condition = CONDITIONS.indexOf(sign);
      if (condition < 0 || difficulty < 0 || difficulty > 30 || rounds < 0 || rounds > 9) {
        return BAD_ARGUMENT;
      }
      if (sources.count >= MOST_TOLD_SOURCES) {
        return BAD_STATE;
      }
      sources.makeRoom();
      sources.addCondition(hero, condition, difficulty, rounds, whose, NOBODY);
      return sources.count - 1;
    }

    int quench(int source) {
      if (!sources.isSource(source)) {
        return NO_INDEX;
      }
      return sources.end(source) ? 1 : 0;
    }

    int changeImmunity(int hero, char sign, int immune) {
      if (!isHero(hero)) {
        return NO_INDEX;
      }
      int condition = CONDITIONS.indexOf(sign);
      if (condition < 0) {
        return BAD_ARGUMENT;
      }
      boolean before = heroes[hero].isImmune[condition];
      heroes[hero].isImmune[condition] = immune == 1;
      return before ? 1 : 0;
    }

    private boolean suffers(int hero, int condition) {
      return heroes[hero].suffers(condition);
    }

    // -- dice and turns

    int hearDie(int die) {
      if (die < 1 || die > 20) {
        return BAD_ARGUMENT;
      }
      dice.hear(die);
      return dice.left();
    }

    private int check(int hero) {
      return dice.roll() + sources.number(hero, WILL);
    }

    boolean isTurnOn() {
      return turnAt != NO_TURN;
    }

    int actor() {
      return isTurnOn() ? order[turnAt] : NOBODY;
    }

    int startFight() {
      if (heroCount == 0) {
        return NO_ELEMENT;
      }
      if (isTurnOn()) {
        return BAD_STATE;
      }
      for (int i = 0; i < heroCount; i++) {
        heroes[i].hasReaction = false;
        placeInOrder(i);
      }
      roundNow = 1;
      return beginTurn(0);
    }

    /** Puts the hero behind those before it in number whose initiative is not less. */
    private void placeInOrder(int hero) {
      int place = hero;
      while (place > 0 && heroes[order[place - 1]].initiative < heroes[hero].initiative) {
        order[place] = order[place - 1];
        place--;
      }
      order[place] = hero;
    }

    private int beginTurn(int place) {
      turnAt = place;
      int hero = order[place];
      sources.passRound(hero);
      heroes[hero].trigger = NOTHING_READIED;
      heroes[hero].hasReaction = true;
      hasAction = true;
      stepsLeft = Math.max(0, sources.number(hero, SPEED));
      return hero;
    }

    int passTurn() {
      if (!isTurnOn()) {
        return BAD_STATE;
      }
      int hero = actor();
      for (int i = 0; i < sources.count; i++) {
        int difficulty = sources.difficultyFor(hero, i);
        if (difficulty > 0 && check(hero) >= difficulty) {
          sources.end(i);
        }
      }
      if (turnAt + 1 < heroCount) {
        return beginTurn(turnAt + 1);
      }
      roundNow++;
      return beginTurn(0);
    }

    int stopFight() {
      if (!isTurnOn()) {
        return BAD_STATE;
      }
      turnAt = NO_TURN;
      roundNow = 0;
      for (int i = 0; i < heroCount; i++) {
        heroes[i].slotsLeft = FULL_SLOTS;
      }
      return sources.endTimed();
    }

    // -- acts of the hero whose turn it is

    int assail(int other) {
      if (!isHero(other)) {
        return NO_INDEX;
      }
      if (!isTurnOn()) {
        return BAD_STATE;
      }
      int hero = actor();
      if (!hasAction || suffers(hero, STUNNED) || distance(hero, other) != 1) {
        return UNSUPPORTED;
      }
      sources.makeRoom();
      hasAction = false;
      return strike(hero, other, 0);
    }

    private int strike(int hero, int other, int depth) {
      int guard = reactToAttack(hero, other, depth);
      if (suffers(hero, STUNNED) || suffers(hero, DOWN) || suffers(other, DOWN)) {
        return CAME_TO_NOTHING;
      }
      int die = rollAttack(hero, other);
      rolledAttacks++;
      int reach = die + sources.number(hero, ATTACK);
      int armour = sources.number(other, ARMOUR) + guard;
      if (die != 20 && (die == 1 || reach < armour)) {
        return MISSED;
      }
      hits++;
      int damage = Math.max(0, sources.number(hero, DAMAGE));
      if (die == 20) {
        damage *= 2;
      }
      harm(other, damage);
      return damage;
    }

    /** Lets those react who readied for attacks; answers by how much they better the armour. */
    private int reactToAttack(int hero, int other, int depth) {
      int guard = 0;
      // Each level deeper has used one hero's reaction up, so no run goes beyond this.
      if (depth > MOST_HEROES) {
        return guard;
      }
      for (int i = 0; i < heroCount; i++) {
        int helper = order[i];
        if (helper == hero || heroes[helper].side != heroes[other].side
            || !heroes[helper].reactsTo('a')) {
          continue;
        }
        if (heroes[helper].reaction == 'g') {
          guard += distance(helper, other) <= 1 ? 2 : 0;
        } else if (distance(helper, hero) == 1) {
          strike(helper, hero, depth + 1);
        }
      }
      return guard;
    }

    private int rollAttack(int hero, int other) {
      boolean advantage = suffers(other, PRONE) || suffers(other, STUNNED)
          || suffers(hero, INVISIBLE);
      boolean drawback = suffers(hero, BLIND) || suffers(hero, PRONE)
          || suffers(other, INVISIBLE);
      int die = dice.roll();
      if (advantage == drawback) {
        return die;
      }
      int second = dice.roll();
      return advantage ? Math.max(die, second) : Math.min(die, second);
    }

    private void harm(int hero, int amount) {
      Hero hurt = heroes[hero];
      int beside = Math.min(hurt.spare, amount);
      int ofLife = Math.min(hurt.life, amount - beside);
      hurt.spare -= beside;
      hurt.life -= ofLife;
      harmTaken += beside + ofLife;
      if (hurt.life == 0) {
        sources.addDown(hero);
      }
      if (amount < 1 || hurt.minded == 0) {
        return;
      }
      boolean isLost = hurt.suffers(DOWN);
      if (!isLost) {
        int check = dice.roll() + sources.number(hero, WILL);
        isLost = check < 10 || check < amount / 2;
      }
      if (isLost) {
        sources.endMinded(hero);
      }
    }

    int walk(int dx, int dy) {
      if (dx < -1 || dx > 1 || dy < -1 || dy > 1 || (dx == 0 && dy == 0)) {
        return BAD_ARGUMENT;
      }
      if (!isTurnOn()) {
        return BAD_STATE;
      }
      Hero mover = heroes[actor()];
      int x = mover.x + dx;
      int y = mover.y + dy;
      if (mover.suffers(STUNNED) || ground.at(x, y) == '#' || heroAt(x, y) != NOBODY) {
        return UNSUPPORTED;
      }
      int cost = (ground.at(x, y) == '~' ? 2 : 1) + (mover.suffers(PRONE) ? 1 : 0);
      if (stepsLeft < cost) {
        return UNSUPPORTED;
      }
      sources.makeRoom();
      stepsLeft -= cost;
      mover.x = x;
      mover.y = y;
      reactToStep(actor(), x - dx, y - dy);
      return mover.suffers(DOWN) ? 0 : 1;
    }

    private void reactToStep(int mover, int beforeX, int beforeY) {
      for (int i = 0; i < heroCount; i++) {
        int watcher = order[i];
        Hero itself = heroes[watcher];
        if (itself.side != heroes[mover].side && distance(watcher, mover) == 1
            && itself.distanceTo(beforeX, beforeY) != 1 && itself.reactsTo('m')) {
          strike(watcher, mover, 1);
        }
      }
    }

    int rise() {
      if (!isTurnOn()) {
        return BAD_STATE;
      }
      int hero = actor();
      if (suffers(hero, STUNNED) || stepsLeft < 2) {
        return UNSUPPORTED;
      }
      stepsLeft -= 2;
      return sources.endProne(hero) ? 1 : 0;
    }

    int prepare(char trigger, char reaction) {
      boolean isKnown = (trigger == 'a' && (reaction == 'g' || reaction == 's'))
          || (trigger == 'm' && reaction == 's')
          || (trigger == 'c' && (reaction == 'x' || reaction == 's'));
      if (!isKnown) {
        return BAD_ARGUMENT;
      }
      if (!isTurnOn()) {
        return BAD_STATE;
      }
      int hero = actor();
      if (!hasAction || suffers(hero, STUNNED)) {
        return UNSUPPORTED;
      }
      hasAction = false;
      heroes[hero].trigger = trigger;
      heroes[hero].reaction = reaction;
      for (int i = 0; i < heroCount; i++) {
        if (i != hero && heroes[i].side == heroes[hero].side && heroes[i].isReadyFor(trigger)) {
          return 1;
        }
      }
      return 0;
    }

    int castSpell(char spell, int x, int y) {
      boolean needsCell = spell != 's';
      if (SPELLS.indexOf(spell) < 0 || (needsCell && !Ground.isCell(x, y))) {
        return BAD_ARGUMENT;
      }
      if (!isTurnOn()) {
        return BAD_STATE;
      }
      int caster = actor();
      Hero itself = heroes[caster];
      if (!hasAction || itself.suffers(STUNNED) || itself.slotsLeft < 1
          || (needsCell && !isSeenBy(itself, x, y))) {
        return UNSUPPORTED;
      }
      sources.makeRoom();
      hasAction = false;
      if (reactToSpell(caster)) {
        return 'u';
      }
      if (itself.suffers(STUNNED)) {
        return 'n';
      }
      itself.slotsLeft--;
      if (spell == 's') {
        sources.addBonus(caster, ARMOUR, 's', 4, 1, caster, NOBODY);
        return 'd';
      }
      if (spell == 'f') {
        burn(x, y);
        return 'd';
      }
      sources.endMinded(caster);
      if (spell == 'b') {
        bless(caster, x, y);
        return 'd';
      }
      return hold(caster, x, y) ? 'd' : 'n';
    }

    /** Lets those react who readied for spells; answers whether the spell is undone. */
    private boolean reactToSpell(int caster) {
      boolean isUndone = false;
      for (int i = 0; i < heroCount; i++) {
        int foe = order[i];
        Hero itself = heroes[foe];
        if (itself.side == heroes[caster].side || !itself.reactsTo('c')) {
          continue;
        }
        if (itself.reaction == 'x') {
          if (isSeenBy(itself, heroes[caster].x, heroes[caster].y) && check(foe) >= 12) {
            isUndone = true;
          }
        } else if (distance(foe, caster) == 1) {
          strike(foe, caster, 1);
        }
      }
      return isUndone;
    }

    private void bless(int caster, int x, int y) {
      for (int i = 0; i < heroCount; i++) {
        if (heroes[i].side == heroes[caster].side && heroes[i].distanceTo(x, y) <= 2) {
          sources.addBonus(i, ATTACK, 'o', 1, 0, caster, caster);
        }
      }
    }

    private void burn(int x, int y) {
      for (int i = 0; i < heroCount; i++) {
        Hero near = heroes[i];
        if (near.distanceTo(x, y) <= 1 && ground.isOpenBetween(x, y, near.x, near.y)) {
          harm(i, check(i) >= 12 ? 3 : 6);
        }
      }
    }

    private boolean hold(int caster, int x, int y) {
      int held = heroAt(x, y);
      if (held == NOBODY || heroes[held].side == heroes[caster].side || check(held) >= 12) {
        return false;
      }
      sources.addCondition(held, HELD, 12, 0, caster, caster);
      return true;
    }

    // -- figures

    boolean areNumbersSound() {
      for (int i = 0; i < heroCount; i++) {
        for (int number = 0; number < 5; number++) {
          if (sources.number(i, number) != sources.gather(i, number)) {
            return false;
          }
        }
      }
      return true;
    }

    boolean areCellsSingle() {
      for (int i = 0; i < heroCount; i++) {
        if (heroAt(heroes[i].x, heroes[i].y) != i) {
          return false;
        }
      }
      return true;
    }

    boolean hasLivesOf(Table other) {
      if (heroCount != other.heroCount) {
        return false;
      }
      for (int i = 0; i < heroCount; i++) {
        if (heroes[i].life != other.heroes[i].life) {
          return false;
        }
      }
      return true;
    }
  }
}
