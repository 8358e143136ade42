import java.util.ArrayDeque;
import java.util.ArrayList;
import java.util.Arrays;
import java.util.List;

// Long runs of calls, each compared with a second program that says the document in other words:
// loads are found by the marks of their slots, states are copied whole, and texts are split, not read by signs.
public final class ModelRuns {
  private static final int UNKNOWN = -1, BAD_VALUE = -2, FULL = -3, NOT_POSSIBLE = -4, NONE = -5, DRY = -6;
  private static final int RUNS = 3000;
  private static final int CALLS = 512;

  /** What an order that is not possible throws in the model. */
  private static final class Refused extends RuntimeException {
    private static final long serialVersionUID = 1L;
    final int error;
    Refused(int error) { super(null, null, false, false); this.error = error; }
  }

  private static void check(boolean good, int error) {
    if (!good) { throw new Refused(error); }
  }

  private static final class Zone {
    final List<int[]> written = new ArrayList<>();
    int kind, resets;
    boolean sealed, well;
    Zone copy() {
      Zone z = new Zone();
      z.written.addAll(written);
      z.kind = kind; z.resets = resets; z.sealed = sealed; z.well = well;
      return z;
    }
  }

  private static final class State {
    List<Zone> zones = new ArrayList<>();
    int slots = 6, at = 0, water = 60, skin = 60, room = 3, bound = 3, next = 0, steps = 0, used = 0, resets = 0, moved = 0;
    List<Integer> bag = new ArrayList<>();
    int[] heat = new int[40];
    int[] mark = new int[40];

    State() {
      Arrays.fill(mark, -1);
      for (int i = 0; i < 4; i++) { zones.add(new Zone()); }
      zones.get(0).well = true;
    }

    State copy() {
      State s = new State();
      s.zones = new ArrayList<>();
      for (Zone z : zones) { s.zones.add(z.copy()); }
      s.slots = slots; s.at = at; s.water = water; s.skin = skin; s.room = room; s.bound = bound;
      s.next = next; s.steps = steps; s.used = used; s.resets = resets; s.moved = moved;
      s.bag = new ArrayList<>(bag);
      s.heat = heat.clone();
      s.mark = mark.clone();
      return s;
    }

    Zone here() { return zones.get(at); }
    boolean hot(int load) { return heat[load] >= bound; }
    boolean live(int[] slot) { return mark[slot[0]] == slot[1]; }
    int live(Zone z) { int n = 0; for (int[] slot : z.written) { if (live(slot)) { n++; } } return n; }
    int dead(Zone z) { return z.written.size() - live(z); }
    void pay(int cost) { check(water >= cost, DRY); water -= cost; used += cost; }
    boolean may(Zone z, int load) { return !z.sealed && (z.kind == 0 || z.kind == 1 && hot(load) || z.kind == 2 && !hot(load)); }
    int wells() { int n = 0; for (Zone z : zones) { if (z.well) { n++; } } return n; }

    int lay(int n, int m) {
      check(n >= 2 && n <= 8 && m >= 2 && m <= 12, BAD_VALUE);
      for (int k = 0; k < 40; k++) { check(mark[k] < 0, NOT_POSSIBLE); }
      zones = new ArrayList<>();
      for (int i = 0; i < n; i++) { zones.add(new Zone()); }
      zones.get(0).well = true;
      slots = m;
      at = 0;
      return n * m;
    }

    int setKind(int zone, int kind) {
      check(zone >= 0 && zone < zones.size(), UNKNOWN);
      check(kind >= 0 && kind <= 2, BAD_VALUE);
      int old = zones.get(zone).kind;
      check(old != kind, NONE);
      zones.get(zone).kind = kind;
      return old;
    }

    int setWell(int zone, boolean is) {
      check(zone >= 0 && zone < zones.size(), UNKNOWN);
      check(zones.get(zone).well != is, NONE);
      zones.get(zone).well = is;
      if (here().well && zone == at) { water = skin; }
      return wells();
    }

    int set(int what, int value) {
      int[][] ranges = {{0, 6}, {10, 200}, {1, 9}};
      check(what >= 0 && what <= 2 && value >= ranges[what][0] && value <= ranges[what][1], BAD_VALUE);
      int old = what == 0 ? room : what == 1 ? skin : bound;
      check(what != 0 || bag.size() <= value, NOT_POSSIBLE);
      check(old != value, NONE);
      if (what == 0) { room = value; }
      if (what == 1) { skin = value; if (water > skin) { water = skin; } }
      if (what == 2) { bound = value; }
      return old;
    }

    void step() {
      pay(1);
      steps++;
      at = (at + 1) % zones.size();
      if (here().well) { water = skin; }
    }

    int go(int n) {
      check(n >= 1 && n <= 24, BAD_VALUE);
      while (n-- > 0) { step(); }
      return at;
    }

    int lands(int load) {
      pay(1);
      here().written.add(new int[] {load, next});
      mark[load] = next++;
      if (here().written.size() == slots) { here().sealed = true; }
      return here().written.size() - 1;
    }

    void known(int load) { check(load >= 0 && load <= 39, UNKNOWN); }

    int write(int load) {
      known(load);
      if (heat[load] < 99) { heat[load]++; }
      check(!bag.contains(load) && may(here(), load), NOT_POSSIBLE);
      return lands(load);
    }

    int take(int load) {
      known(load);
      boolean lies = false;
      for (int[] slot : here().written) { lies |= slot[0] == load && live(slot); }
      check(lies, NOT_POSSIBLE);
      check(bag.size() < room, FULL);
      mark[load] = -1;
      bag.add(load);
      return bag.size();
    }

    int put(int load) {
      known(load);
      check(bag.contains(load) && may(here(), load), NOT_POSSIBLE);
      int slot = lands(load);
      bag.remove((Integer) load);
      moved++;
      return slot;
    }

    int drop(int load) {
      known(load);
      check(mark[load] >= 0 || bag.contains(load), NONE);
      int was = mark[load] >= 0 ? 1 : 2;
      mark[load] = -1;
      bag.remove((Integer) load);
      heat[load] = 0;
      return was;
    }

    void empty() {
      pay(3);
      here().written.clear();
      here().sealed = false;
      here().resets++;
      resets++;
    }

    int reset() {
      int n = here().written.size();
      check(live(here()) == 0, NOT_POSSIBLE);
      check(water >= 3, DRY);
      check(n > 0 || here().sealed, NONE);
      empty();
      return n;
    }

    int seal() {
      check(!here().sealed, NONE);
      here().sealed = true;
      return slots - here().written.size();
    }

    int clean() {
      Zone home = here();
      check(!home.written.isEmpty(), NONE);
      check(bag.size() + live(home) <= room, FULL);
      List<Integer> mine = new ArrayList<>();
      for (int[] slot : home.written) { if (live(slot)) { mine.add(slot[0]); } }
      for (int load : mine) { mark[load] = -1; bag.add(load); }
      empty();
      int gone = 0;
      while (!mine.isEmpty()) {
        check(gone == 0 || here() != home, NOT_POSSIBLE);
        step();
        gone++;
        for (int load : new ArrayList<>(mine)) {
          if (may(here(), load)) { put(load); mine.remove((Integer) load); }
        }
      }
      return gone;
    }

    int dusk() {
      int n = 0;
      for (int k = 0; k < 40; k++) {
        boolean was = hot(k);
        heat[k] /= 2;
        if (was && !hot(k)) { n++; }
      }
      return n;
    }
  }

  private static final class Model {
    State s = new State();
    State snapshot = null;
    final ArrayDeque<State> history = new ArrayDeque<>();
    String text = "";

    int act(int what, int a, int b) {
      State before = s.copy();
      try {
        int answer = doOne(what, a, b);
        history.addLast(before);
        if (history.size() > 4) { history.removeFirst(); }
        return answer;
      } catch (Refused r) {
        s = before;
        return r.error;
      }
    }

    private int doOne(int what, int a, int b) {
      switch (what) {
        case 0: return s.lay(a, b);
        case 1: return s.setKind(a, b);
        case 2: return s.setWell(a, b != 0);
        case 3: return s.set(a, b);
        case 4: return s.go(a);
        case 5: return s.write(a);
        case 6: return s.take(a);
        case 7: return s.put(a);
        case 8: return s.drop(a);
        case 9: return s.reset();
        case 10: return s.seal();
        case 11: return s.clean();
        case 12: return s.dusk();
        case 13: return perform();
        default:
          check(snapshot != null, NONE);
          s = snapshot.copy();
          return s.next;
      }
    }

    /** The longest beginning that can still become a text of orders, tried one length after the other. */
    private int fault() {
      String order = "([gwtpd](0|[1-9][0-9]?)|[rsc])";
      if (text.matches(order + "(;" + order + ")*")) { return -1; }
      for (int n = 1; n <= text.length(); n++) {
        if (!text.substring(0, n).matches("(" + order + ";)*(" + order + "|[gwtpd])?")) { return n - 1; }
      }
      return text.length();
    }

    private int perform() {
      int fault = fault();
      check(fault < 0, -100 - fault);
      String[] all = text.split(";");
      for (String order : all) {
        int number = order.length() > 1 ? Integer.parseInt(order.substring(1)) : 0;
        int what = 4 + "gwtpdrsc".indexOf(order.charAt(0));
        try {
          doOne(what, number, 0);
        } catch (Refused r) {
          check(r.error == NONE, r.error);
        }
      }
      return all.length;
    }

    int undo() {
      if (history.isEmpty()) { return NONE; }
      s = history.removeLast();
      return history.size();
    }

    int keep() {
      snapshot = s.copy();
      return s.next;
    }

    int type(char c) {
      if (text.length() == 60) { return FULL; }
      text += c;
      return text.length();
    }

    int clearText() {
      int n = text.length();
      text = "";
      return n;
    }

    int zone(int zone, int what) {
      if (zone < 0 || zone >= s.zones.size()) { return UNKNOWN; }
      Zone z = s.zones.get(zone);
      int n = s.zones.size();
      int[] tells = {z.written.size(), s.live(z), s.dead(z), z.kind, z.sealed ? 1 : 0, z.well ? 1 : 0, z.resets, (zone + n - s.at) % n};
      return what < 0 || what >= tells.length ? BAD_VALUE : tells[what];
    }

    int slot(int zone, int slot, int what) {
      if (zone < 0 || zone >= s.zones.size() || slot < 0 || slot >= s.slots) { return UNKNOWN; }
      if (what < 0 || what > 2) { return BAD_VALUE; }
      List<int[]> written = s.zones.get(zone).written;
      if (slot >= written.size()) { return NONE; }
      int[] it = written.get(slot);
      return what == 2 ? (s.live(it) ? 1 : 0) : it[what];
    }

    int load(int load, int what) {
      if (load < 0 || load > 39) { return UNKNOWN; }
      int zone = NONE, slot = NONE, mark = NONE;
      for (int i = 0; i < s.zones.size(); i++) {
        List<int[]> written = s.zones.get(i).written;
        for (int j = 0; j < written.size(); j++) {
          if (written.get(j)[0] == load && s.live(written.get(j))) { zone = i; slot = j; mark = written.get(j)[1]; }
        }
      }
      int place = s.bag.indexOf(load);
      int[] tells = {place >= 0 ? 2 : zone >= 0 ? 1 : 0, zone, slot, mark, s.heat[load], s.hot(load) ? 1 : 0, place >= 0 ? place : NONE};
      return what < 0 || what > 6 ? BAD_VALUE : tells[what];
    }

    int scan(int load) {
      if (load < 0 || load > 39) { return UNKNOWN; }
      int found = NONE, best = -1;
      for (int i = 0; i < s.zones.size(); i++) {
        List<int[]> written = s.zones.get(i).written;
        for (int j = 0; j < written.size(); j++) {
          if (written.get(j)[0] == load && written.get(j)[1] > best) { best = written.get(j)[1]; found = 100 * i + j; }
        }
      }
      return found;
    }

    int caravan(int what) {
      int[] tells = {s.at, s.water, s.skin, s.bag.size(), s.room, s.steps, s.used};
      return what < 0 || what >= tells.length ? BAD_VALUE : tells[what];
    }

    int bagAt(int place) {
      return place < 0 ? BAD_VALUE : place < s.bag.size() ? s.bag.get(place) : NONE;
    }

    /** Tries every store of water, from the least on. */
    int waterTo(int zone) {
      if (zone < 0 || zone >= s.zones.size()) { return UNKNOWN; }
      for (int start = 0; ; start++) {
        int at = s.at, water = start;
        while (at != zone && water > 0) {
          water--;
          at = (at + 1) % s.zones.size();
          if (s.zones.get(at).well) { water = s.skin; }
        }
        if (at == zone) { return start; }
      }
    }

    int worst() {
      int n = s.zones.size();
      List<Integer> order = new ArrayList<>();
      for (int i = 0; i < n; i++) { order.add((s.at + i) % n); }
      order.removeIf(z -> s.dead(s.zones.get(z)) == 0);
      order.sort((p, q) -> {
        Zone a = s.zones.get(p), b = s.zones.get(q);
        return s.live(a) != s.live(b) ? s.live(a) - s.live(b) : s.dead(b) - s.dead(a);
      });
      return order.isEmpty() ? NONE : order.get(0);
    }

    int nearestFor(int load) {
      if (load < 0 || load > 39) { return UNKNOWN; }
      for (int i = 0; i < s.zones.size(); i++) {
        int zone = (s.at + i) % s.zones.size();
        if (s.may(s.zones.get(zone), load)) { return zone; }
      }
      return NONE;
    }

    int count(int what) {
      int live = 0, dead = 0, sealed = 0, hot = 0;
      for (Zone z : s.zones) { live += s.live(z); dead += s.dead(z); sealed += z.sealed ? 1 : 0; }
      for (int k = 0; k < 40; k++) { hot += s.hot(k) ? 1 : 0; }
      int[] tells = {s.zones.size(), s.slots, live, dead, s.zones.size() * s.slots - live - dead, sealed, hot, s.bound, s.next,
        s.resets, s.wells(), s.moved, history.size(), text.length()};
      return what < 0 || what >= tells.length ? BAD_VALUE : tells[what];
    }
  }

  private static long seed;

  private static int pick(int n) {
    seed = seed * 6364136223846793005L + 1442695040888963407L;
    return (int) ((seed >>> 33) % n);
  }

  private static int among(int... numbers) { return numbers[pick(numbers.length)]; }

  private static int loads;

  private static int aLoad() { return pick(40) == 0 ? among(-1, 40, 39, Integer.MIN_VALUE, Integer.MAX_VALUE) : pick(loads); }
  private static int aZone(Model m) { return pick(30) == 0 ? among(-1, 8, m.s.zones.size()) : pick(m.s.zones.size()); }

  private static String aText() {
    StringBuilder text = new StringBuilder();
    int orders = 1 + pick(pick(3) == 0 ? 24 : 6);
    for (int i = 0; i < orders; i++) {
      if (i > 0) { text.append(';'); }
      char letter = "ggwwwwwtppdrsc".charAt(pick(14));
      text.append(letter);
      if ("gwtpd".indexOf(letter) >= 0) { text.append(letter == 'g' ? 1 + pick(3) : pick(60) == 0 ? pick(100) : pick(loads)); }
    }
    if (pick(4) == 0) {
      int at = pick(text.length() + 1);
      char odd = "0123456789;;gwtpdrsc xG".charAt(pick(23));
      if (pick(3) == 0 && at < text.length()) { text.deleteCharAt(at); }
      else if (pick(2) == 0) { text.insert(at, odd); }
      else { text.setLength(at); }
    }
    return text.toString();
  }

  private static String call;

  /** One call of each, by its number; the text of a perform() is typed ahead of it. */
  private static boolean sameAnswer(CaravanZones x, Model m, int what, int a, int b, int c) {
    int got, want;
    switch (what) {
      case 0: call = "lay(" + a + ", " + b + ")"; got = x.lay(a, b); want = m.act(0, a, b); break;
      case 1: call = "setKind(" + a + ", " + b + ")"; got = x.setKind(a, b); want = m.act(1, a, b); break;
      case 2: call = "setWell(" + a + ", " + (b != 0) + ")"; got = x.setWell(a, b != 0); want = m.act(2, a, b); break;
      case 3: call = "set(" + a + ", " + b + ")"; got = x.set(a, b); want = m.act(3, a, b); break;
      case 4: call = "go(" + a + ")"; got = x.go(a); want = m.act(4, a, 0); break;
      case 5: call = "write(" + a + ")"; got = x.write(a); want = m.act(5, a, 0); break;
      case 6: call = "take(" + a + ")"; got = x.take(a); want = m.act(6, a, 0); break;
      case 7: call = "put(" + a + ")"; got = x.put(a); want = m.act(7, a, 0); break;
      case 8: call = "drop(" + a + ")"; got = x.drop(a); want = m.act(8, a, 0); break;
      case 9: call = "reset()"; got = x.reset(); want = m.act(9, 0, 0); break;
      case 10: call = "seal()"; got = x.seal(); want = m.act(10, 0, 0); break;
      case 11: call = "clean()"; got = x.clean(); want = m.act(11, 0, 0); break;
      case 12: call = "dusk()"; got = x.dusk(); want = m.act(12, 0, 0); break;
      case 13: call = "perform() of " + m.text; got = x.perform(); want = m.act(13, 0, 0); break;
      case 14: call = "restore()"; got = x.restore(); want = m.act(14, 0, 0); break;
      case 15: call = "keep()"; got = x.keep(); want = m.keep(); break;
      case 16: call = "undo()"; got = x.undo(); want = m.undo(); break;
      case 17: call = "type(" + a + ")"; got = x.type((char) a); want = m.type((char) a); break;
      case 18: call = "clearText()"; got = x.clearText(); want = m.clearText(); break;
      case 19: call = "zone(" + a + ", " + b + ")"; got = x.zone(a, b); want = m.zone(a, b); break;
      case 20: call = "slot(" + a + ", " + b + ", " + c + ")"; got = x.slot(a, b, c); want = m.slot(a, b, c); break;
      case 21: call = "load(" + a + ", " + b + ")"; got = x.load(a, b); want = m.load(a, b); break;
      case 22: call = "scan(" + a + ")"; got = x.scan(a); want = m.scan(a); break;
      case 23: call = "caravan(" + a + ")"; got = x.caravan(a); want = m.caravan(a); break;
      case 24: call = "bagAt(" + a + ")"; got = x.bagAt(a); want = m.bagAt(a); break;
      case 25: call = "waterTo(" + a + ")"; got = x.waterTo(a); want = m.waterTo(a); break;
      case 26: call = "worst()"; got = x.worst(); want = m.worst(); break;
      case 27: call = "nearestFor(" + a + ")"; got = x.nearestFor(a); want = m.nearestFor(a); break;
      default: call = "count(" + a + ")"; got = x.count(a); want = m.count(a); break;
    }
    if (what < 29) { reached[what][got >= 0 ? 0 : got >= DRY ? -got : 7]++; }
    if (got == want) { return true; }
    System.out.println(call + " answered " + got + ", due is " + want);
    return false;
  }

  private static final int[][] reached = new int[29][8];

  private static boolean nextCall(CaravanZones x, Model m) {
    switch (pick(46)) {
      case 0: return sameAnswer(x, m, 0, 1 + pick(9), 1 + pick(13), 0);
      case 1: return sameAnswer(x, m, 1, aZone(m), pick(30) == 0 ? among(-1, 3) : pick(3), 0);
      case 2: return sameAnswer(x, m, 2, aZone(m), pick(2), 0);
      case 3: {
        int what = pick(30) == 0 ? among(-1, 3) : pick(3);
        return sameAnswer(x, m, 3, what, what == 1 ? among(9, 10, 10, 12, 20, 60, 200, 201) : pick(11) - 1, 0);
      }
      case 4: case 5: case 6: case 7: return sameAnswer(x, m, 4, pick(20) == 0 ? among(0, 25, 24, -1) : 1 + pick(4), 0, 0);
      case 8: case 9: case 10: case 11: case 12: case 13: case 14: case 15: return sameAnswer(x, m, 5, aLoad(), 0, 0);
      case 16: case 17: return sameAnswer(x, m, 6, aLoad(), 0, 0);
      case 18: case 19: case 20: return sameAnswer(x, m, 7, m.s.bag.isEmpty() || pick(9) == 0 ? aLoad() : m.s.bag.get(pick(m.s.bag.size())), 0, 0);
      case 21: case 22: return sameAnswer(x, m, 8, aLoad(), 0, 0);
      case 23: return sameAnswer(x, m, 9, 0, 0, 0);
      case 24: return pick(2) == 0 || sameAnswer(x, m, 10, 0, 0, 0);
      case 25: case 26: return sameAnswer(x, m, 11, 0, 0, 0);
      case 27: return pick(2) == 0 || sameAnswer(x, m, 12, 0, 0, 0);
      case 28: return pick(3) != 0 || sameAnswer(x, m, 14, 0, 0, 0);
      case 29: return pick(3) != 0 || sameAnswer(x, m, 15, 0, 0, 0);
      case 30: return sameAnswer(x, m, 16, 0, 0, 0);
      case 31: return sameAnswer(x, m, 13, 0, 0, 0);
      default: return nextQuestion(x, m);
    }
  }

  private static boolean nextQuestion(CaravanZones x, Model m) {
    switch (pick(14)) {
      case 0: case 1: return sameAnswer(x, m, 19, aZone(m), pick(10) - 1, 0);
      case 2: case 3: return sameAnswer(x, m, 20, aZone(m), pick(m.s.slots + 2) - 1, pick(5) - 1);
      case 4: case 5: return sameAnswer(x, m, 21, aLoad(), pick(9) - 1, 0);
      case 6: return sameAnswer(x, m, 22, aLoad(), 0, 0);
      case 7: case 8: return sameAnswer(x, m, 23, pick(9) - 1, 0, 0);
      case 9: return sameAnswer(x, m, 24, pick(9) - 1, 0, 0);
      case 10: return sameAnswer(x, m, 25, aZone(m), 0, 0);
      case 11: return sameAnswer(x, m, 26, 0, 0, 0);
      case 12: return sameAnswer(x, m, 27, aLoad(), 0, 0);
      default: return sameAnswer(x, m, 28, pick(16) - 1, 0, 0);
    }
  }

  private static boolean run(int number) {
    seed = number * 7919L + 17;
    loads = among(3, 5, 8, 12, 40);
    CaravanZones x = new CaravanZones();
    Model m = new Model();
    int calls = 0;
    if (pick(4) != 0) { sameAnswer(x, m, 0, 2 + pick(3), 2 + pick(4), 0); calls++; }
    while (calls < CALLS) {
      if (pick(30) == 0) {
        String text = aText();
        if (calls + text.length() + 2 > CALLS) { return true; }
        if (!sameAnswer(x, m, 18, 0, 0, 0)) { return false; }
        for (char sign : text.toCharArray()) { if (!sameAnswer(x, m, 17, sign, 0, 0)) { return false; } }
        if (!sameAnswer(x, m, 13, 0, 0, 0)) { return false; }
        calls += text.length() + 2;
      } else {
        if (!nextCall(x, m)) { return false; }
        calls++;
      }
    }
    return true;
  }

  public static void main(String[] args) {
    int wrong = 0;
    for (int number = 1; number <= RUNS && wrong < 10; number++) {
      if (!run(number)) { wrong++; System.out.println("  in the run " + number); }
    }
    if (args.length > 0) { for (int i = 0; i < 29; i++) { System.out.println(i + " " + Arrays.toString(reached[i])); } }
    System.out.println(wrong == 0 ? "ModelRuns: all answers are as due" : "ModelRuns: " + wrong + " runs are not as due");
    if (wrong != 0) { System.exit(1); }
  }
}
