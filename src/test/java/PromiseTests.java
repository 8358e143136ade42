// One method for each promise of the document: ordinary inputs, the edges that it names, wrong inputs.
public final class PromiseTests {
  private static final int UNKNOWN = -1, BAD_VALUE = -2, FULL = -3, NOT_POSSIBLE = -4, NONE = -5, DRY = -6;
  private static int wrong = 0;
  private static int promise = 0;

  private static void due(String call, int got, int want) {
    if (got != want) {
      wrong++;
      System.out.println("promise " + promise + ": " + call + " answered " + got + ", due is " + want);
    }
  }

  private static int told(Taped x, String text) {
    x.text(text);
    return x.perform();
  }

  /** A call that was refused: its answer was compared before, and nothing may have changed. */
  private static void same(Taped x, String call, String picture, int states) {
    if (!x.picture().equals(picture) || x.count(12) != states) {
      wrong++;
      System.out.println("promise " + promise + ": " + call + " changed something");
    }
  }

  private static void dueRefused(Taped x, String text, int want) {
    String picture = x.picture();
    int states = x.count(12);
    due(text, told(x, text), want);
    same(x, text, picture, states);
  }

  public static void main(String[] args) {
    promise = 1; aNewObject();
    promise = 2; laying();
    promise = 3; kinds();
    promise = 4; wells();
    promise = 5; settings();
    promise = 6; going();
    promise = 7; writing();
    promise = 8; taking();
    promise = 9; putting();
    promise = 10; dropping();
    promise = 11; resetting();
    promise = 12; sealing();
    promise = 13; cleaning(); cleaningRefused();
    promise = 14; dusks();
    promise = 15; typing();
    promise = 16; clearing();
    promise = 17; faults(); performing();
    promise = 18; undoing(); undoingEachAct();
    promise = 19; keeping();
    promise = 20; restoring();
    promise = 21; tellingZones();
    promise = 22; tellingSlots();
    promise = 23; tellingLoads();
    promise = 24; scanning();
    promise = 25; tellingTheCaravan();
    promise = 26; tellingTheBag();
    promise = 27; ways();
    promise = 28; worstZones();
    promise = 29; nearestZones();
    promise = 30; counting();
    System.out.println(wrong == 0 ? "PromiseTests: all answers are as due" : "PromiseTests: " + wrong + " answers are not as due");
    if (wrong != 0) { System.exit(1); }
  }

  private static void aNewObject() {
    Taped x = new Taped();
    due("UNKNOWN", CaravanZones.UNKNOWN, UNKNOWN);
    due("BAD_VALUE", CaravanZones.BAD_VALUE, BAD_VALUE);
    due("FULL", CaravanZones.FULL, FULL);
    due("NOT_POSSIBLE", CaravanZones.NOT_POSSIBLE, NOT_POSSIBLE);
    due("NONE", CaravanZones.NONE, NONE);
    due("DRY", CaravanZones.DRY, DRY);
    int[] counts = {4, 6, 0, 0, 24, 0, 0, 3, 0, 0, 1, 0, 0, 0};
    for (int what = 0; what < counts.length; what++) { due("count(" + what + ")", x.count(what), counts[what]); }
    int[] caravan = {0, 60, 60, 0, 3, 0, 0};
    for (int what = 0; what < caravan.length; what++) { due("caravan(" + what + ")", x.caravan(what), caravan[what]); }
    for (int zone = 0; zone < 4; zone++) {
      int[] tells = {0, 0, 0, 0, 0, zone == 0 ? 1 : 0, 0, zone};
      for (int what = 0; what < 8; what++) { due("zone(" + zone + ", " + what + ")", x.zone(zone, what), tells[what]); }
      for (int slot = 0; slot < 6; slot++) { due("slot", x.slot(zone, slot, 0), NONE); }
    }
    int[] tells = {0, NONE, NONE, NONE, 0, 0, NONE};
    for (int load = 0; load < 40; load++) {
      for (int what = 0; what < 7; what++) { due("load(" + load + ", " + what + ")", x.load(load, what), tells[what]); }
    }
    due("undo()", x.undo(), NONE);
    due("restore()", x.restore(), NONE);
    due("worst()", x.worst(), NONE);
  }

  private static void laying() {
    Taped x = new Taped();
    due("lay(1, 6)", x.lay(1, 6), BAD_VALUE);
    due("lay(9, 6)", x.lay(9, 6), BAD_VALUE);
    due("lay(4, 1)", x.lay(4, 1), BAD_VALUE);
    due("lay(4, 13)", x.lay(4, 13), BAD_VALUE);
    due("lay(MIN, MAX)", x.lay(Integer.MIN_VALUE, Integer.MAX_VALUE), BAD_VALUE);
    due("count(12)", x.count(12), 0);
    due("lay(2, 2)", x.lay(2, 2), 4);
    due("lay(8, 12)", x.lay(8, 12), 96);
    due("lay(8, 12)", x.lay(8, 12), 96);
    due("count(12)", x.count(12), 3);
    due("zone(7, 7)", x.zone(7, 7), 7);
    due("zone(8, 0)", x.zone(8, 0), UNKNOWN);
    due("slot(7, 11, 0)", x.slot(7, 11, 0), NONE);
    due("slot(7, 12, 0)", x.slot(7, 12, 0), UNKNOWN);

    x = new Taped();
    due("perform", told(x, "w5;w5;w5;g2;w6;w6;r"), NOT_POSSIBLE);
    due("perform", told(x, "w5;w5;w5;g2;w6;w6"), 6);
    due("lay(3, 4)", x.lay(3, 4), NOT_POSSIBLE);
    due("lay(1, 4)", x.lay(1, 4), BAD_VALUE);
    due("perform", told(x, "t6;d5"), 2);
    due("set", x.set(2, 2), 3);
    due("setKind", x.setKind(2, 2), 0);
    due("setWell", x.setWell(3, true), 2);
    due("setWell", x.setWell(0, false), 1);
    due("perform", told(x, "r;s;g2;r;s"), 5);
    due("water", x.caravan(1), 56);
    due("lay(3, 4)", x.lay(3, 4), 12);
    for (int zone = 0; zone < 3; zone++) {
      int[] tells = {0, 0, 0, 0, 0, zone == 0 ? 1 : 0, 0, zone};
      for (int what = 0; what < 8; what++) { due("zone(" + zone + ", " + what + ")", x.zone(zone, what), tells[what]); }
      for (int slot = 0; slot < 4; slot++) { due("slot", x.slot(zone, slot, 1), NONE); }
    }
    int[] caravan = {0, 56, 60, 1, 3, 4, 15};
    for (int what = 0; what < caravan.length; what++) { due("caravan(" + what + ")", x.caravan(what), caravan[what]); }
    int[] counts = {3, 4, 0, 0, 12, 0, 1, 2, 5, 2, 1, 0};
    for (int what = 0; what < counts.length; what++) { due("count(" + what + ")", x.count(what), counts[what]); }
    due("bagAt(0)", x.bagAt(0), 6);
    due("load(6, 4)", x.load(6, 4), 2);
    due("load(5, 4)", x.load(5, 4), 0);
    due("put(6)", x.put(6), 0);
    due("mark", x.slot(0, 0, 1), 5);

    // wherever the caravan is, and whichever load lies in a slot
    x = new Taped();
    due("perform", told(x, "g3;s"), 2);
    due("setWell", x.setWell(1, true), 2);
    due("setKind", x.setKind(2, 2), 0);
    due("write", x.write(0), NOT_POSSIBLE);
    due("lay(4, 6)", x.lay(4, 6), 24);
    due("at", x.caravan(0), 0);
    due("water", x.caravan(1), 57);
    due("count(10)", x.count(10), 1);
    due("zone(1, 5)", x.zone(1, 5), 0);
    due("zone(2, 3)", x.zone(2, 3), 0);
    due("zone(3, 4)", x.zone(3, 4), 0);
    due("write", x.write(0), 0);
    due("lay(4, 6)", x.lay(4, 6), NOT_POSSIBLE);
    due("perform", told(x, "t0;w39"), 2);
    due("lay(4, 6)", x.lay(4, 6), NOT_POSSIBLE);
    due("take", x.take(39), 2);
    due("lay(4, 6)", x.lay(4, 6), 24);
    due("count(4)", x.count(4), 24);
  }

  private static void kinds() {
    Taped x = new Taped();
    due("setKind(-1, 0)", x.setKind(-1, 0), UNKNOWN);
    due("setKind(4, 1)", x.setKind(4, 1), UNKNOWN);
    due("setKind(4, 3)", x.setKind(4, 3), UNKNOWN);
    due("setKind(0, 3)", x.setKind(0, 3), BAD_VALUE);
    due("setKind(0, -1)", x.setKind(0, -1), BAD_VALUE);
    due("setKind(0, 0)", x.setKind(0, 0), NONE);
    due("count(12)", x.count(12), 0);
    due("setKind(3, 1)", x.setKind(3, 1), 0);
    due("setKind(3, 1)", x.setKind(3, 1), NONE);
    due("setKind(3, 2)", x.setKind(3, 2), 1);
    due("zone(3, 3)", x.zone(3, 3), 2);
    due("zone(2, 3)", x.zone(2, 3), 0);
    due("setKind(3, 0)", x.setKind(3, 0), 2);
    due("count(12)", x.count(12), 3);
    due("zone(3, 3)", x.zone(3, 3), 0);
  }

  private static void wells() {
    Taped x = new Taped();
    due("setWell(-1, true)", x.setWell(-1, true), UNKNOWN);
    due("setWell(4, false)", x.setWell(4, false), UNKNOWN);
    due("setWell(0, true)", x.setWell(0, true), NONE);
    due("setWell(1, false)", x.setWell(1, false), NONE);
    due("count(12)", x.count(12), 0);
    due("go(2)", x.go(2), 2);
    due("setWell(3, true)", x.setWell(3, true), 2);
    due("water", x.caravan(1), 58);
    due("setWell(0, false)", x.setWell(0, false), 1);
    due("setWell(2, true)", x.setWell(2, true), 2);
    due("water", x.caravan(1), 60);
    due("used", x.caravan(6), 2);
    due("write", x.write(1), 0);
    due("setWell(2, true)", x.setWell(2, true), NONE);
    due("setWell(2, false)", x.setWell(2, false), 1);
    due("water", x.caravan(1), 59);
    due("setWell(3, false)", x.setWell(3, false), 0);
    due("zone(3, 5)", x.zone(3, 5), 0);
    due("go(4)", x.go(4), 2);
    due("water", x.caravan(1), 55);
  }

  private static void settings() {
    Taped x = new Taped();
    int[][] bad = {{-1, 3}, {3, 3}, {0, -1}, {0, 7}, {1, 9}, {1, 201}, {2, 0}, {2, 10}, {9, 60}};
    for (int[] call : bad) { due("set(" + call[0] + ", " + call[1] + ")", x.set(call[0], call[1]), BAD_VALUE); }
    due("set(0, 3)", x.set(0, 3), NONE);
    due("set(1, 60)", x.set(1, 60), NONE);
    due("set(2, 3)", x.set(2, 3), NONE);
    due("count(12)", x.count(12), 0);
    due("set(0, 0)", x.set(0, 0), 3);
    due("set(0, 6)", x.set(0, 6), 0);
    due("set(1, 200)", x.set(1, 200), 60);
    due("water", x.caravan(1), 60);
    due("go(1)", x.go(1), 1);
    due("set(1, 59)", x.set(1, 59), 200);
    due("water", x.caravan(1), 59);
    due("set(1, 10)", x.set(1, 10), 59);
    due("water", x.caravan(1), 10);
    due("used", x.caravan(6), 1);
    due("set(1, 70)", x.set(1, 70), 10);
    due("water", x.caravan(1), 10);
    due("go(3)", x.go(3), 0);
    due("water", x.caravan(1), 70);
    due("set(2, 1)", x.set(2, 1), 3);
    due("set(2, 9)", x.set(2, 9), 1);
    due("count(7)", x.count(7), 9);
    due("caravan(4)", x.caravan(4), 6);
    due("perform", told(x, "w1;w2;t1;t2"), 4);
    String picture = x.picture();
    due("set(0, 1)", x.set(0, 1), NOT_POSSIBLE);
    due("set(0, 0)", x.set(0, 0), NOT_POSSIBLE);
    due("set(0, 7)", x.set(0, 7), BAD_VALUE);
    same(x, "set(0, 1)", picture, 4);
    due("set(0, 2)", x.set(0, 2), 6);
    due("set(0, 2)", x.set(0, 2), NONE);
  }

  private static void going() {
    Taped x = new Taped();
    due("go(0)", x.go(0), BAD_VALUE);
    due("go(25)", x.go(25), BAD_VALUE);
    due("go(-1)", x.go(-1), BAD_VALUE);
    due("count(12)", x.count(12), 0);
    due("go(1)", x.go(1), 1);
    due("go(24)", x.go(24), 1);
    due("water", x.caravan(1), 59);
    due("steps", x.caravan(5), 25);
    due("used", x.caravan(6), 25);
    due("go(3)", x.go(3), 0);
    due("water", x.caravan(1), 60);
    due("set", x.set(1, 10), 60);
    due("setWell", x.setWell(0, false), 0);
    String picture = x.picture();
    due("go(11)", x.go(11), DRY);
    same(x, "go(11)", picture, 4);
    due("go(10)", x.go(10), 2);
    due("water", x.caravan(1), 0);
    due("go(1)", x.go(1), DRY);
    due("go(25)", x.go(25), BAD_VALUE);
    due("setWell", x.setWell(2, true), 1);
    due("go(24)", x.go(24), 2);
    due("water", x.caravan(1), 10);
  }

  private static void writing() {
    Taped x = new Taped();
    due("write(-1)", x.write(-1), UNKNOWN);
    due("write(40)", x.write(40), UNKNOWN);
    due("lay", x.lay(3, 3), 9);
    due("write(0)", x.write(0), 0);
    due("write(39)", x.write(39), 1);
    due("heat", x.load(39, 4), 1);
    due("sealed", x.zone(0, 4), 0);
    due("write(0)", x.write(0), 2);
    due("sealed", x.zone(0, 4), 1);
    due("slot(0, 0, 2)", x.slot(0, 0, 2), 0);
    due("slot(0, 2, 2)", x.slot(0, 2, 2), 1);
    due("slot(0, 2, 1)", x.slot(0, 2, 1), 2);
    due("water", x.caravan(1), 57);
    due("used", x.caravan(6), 3);
    String picture = x.picture();
    due("write(1)", x.write(1), NOT_POSSIBLE);
    due("write(40)", x.write(40), UNKNOWN);
    same(x, "write(1)", picture, 4);
    due("go", x.go(1), 1);
    due("write(0)", x.write(0), 0);
    due("slot(0, 2, 2)", x.slot(0, 2, 2), 0);
    due("heat", x.load(0, 4), 3);
    due("take(0)", x.take(0), 1);
    picture = x.picture();
    due("write(0)", x.write(0), NOT_POSSIBLE);
    same(x, "write(0)", picture, 4);
    due("moved", x.count(11), 0);

    // the heat is greater before the kind is looked at
    x = new Taped();
    due("setKind", x.setKind(0, 2), 0);
    due("write(7)", x.write(7), 0);
    due("write(7)", x.write(7), 1);
    due("write(7)", x.write(7), NOT_POSSIBLE);
    due("heat", x.load(7, 4), 2);
    due("setKind", x.setKind(0, 1), 2);
    due("write(8)", x.write(8), NOT_POSSIBLE);
    due("write(7)", x.write(7), 2);
    due("hot", x.load(7, 5), 1);
    due("set", x.set(2, 1), 3);
    due("write(8)", x.write(8), 3);

    // no water
    x = new Taped();
    due("set", x.set(1, 10), 60);
    due("setWell", x.setWell(0, false), 0);
    due("go", x.go(9), 1);
    due("write", x.write(3), 0);
    due("water", x.caravan(1), 0);
    due("write", x.write(3), DRY);
    due("heat", x.load(3, 4), 1);
    due("take", x.take(3), 1);
    due("write", x.write(3), NOT_POSSIBLE);
    due("seal", x.seal(), 5);
    due("write", x.write(4), NOT_POSSIBLE);
    due("write", x.write(40), UNKNOWN);

    // the heat is 99 at most
    x = new Taped();
    due("lay", x.lay(2, 12), 24);
    due("set", x.set(1, 200), 60);
    for (int i = 0; i < 100; i++) {
      if (x.zone(x.caravan(0), 4) == 1) { x.go(1); x.reset(); }
      due("write", x.write(5) >= 0 ? 1 : 0, 1);
      due("heat", x.load(5, 4), Math.min(i + 1, 99));
    }
    due("write", x.write(5) >= 0 ? 1 : 0, 1);
    due("heat", x.load(5, 4), 99);
  }

  private static void taking() {
    Taped x = new Taped();
    due("take(-1)", x.take(-1), UNKNOWN);
    due("take(40)", x.take(40), UNKNOWN);
    due("take(1)", x.take(1), NOT_POSSIBLE);
    due("perform", told(x, "w1;w2;w3;w4;g1;w5"), 6);
    due("take(1)", x.take(1), NOT_POSSIBLE);
    due("take(5)", x.take(5), 1);
    due("take(5)", x.take(5), NOT_POSSIBLE);
    due("go", x.go(3), 0);
    due("take(3)", x.take(3), 2);
    due("slot(0, 2, 2)", x.slot(0, 2, 2), 0);
    due("slot(0, 2, 0)", x.slot(0, 2, 0), 3);
    due("take(1)", x.take(1), 3);
    due("bagAt(0)", x.bagAt(0), 5);
    due("bagAt(1)", x.bagAt(1), 3);
    due("bagAt(2)", x.bagAt(2), 1);
    due("water", x.caravan(1), 60);
    String picture = x.picture();
    due("take(2)", x.take(2), FULL);
    due("take(3)", x.take(3), NOT_POSSIBLE);
    due("take(40)", x.take(40), UNKNOWN);
    same(x, "take(2)", picture, 4);
    due("heat", x.load(1, 4), 1);
    due("set", x.set(0, 4), 3);
    due("take(2)", x.take(2), 4);
    due("live", x.zone(0, 1), 1);
    due("dead", x.zone(0, 2), 3);
  }

  private static void putting() {
    Taped x = new Taped();
    due("put(-1)", x.put(-1), UNKNOWN);
    due("put(40)", x.put(40), UNKNOWN);
    due("put(1)", x.put(1), NOT_POSSIBLE);
    due("write", x.write(1), 0);
    due("put(1)", x.put(1), NOT_POSSIBLE);
    due("perform", told(x, "w2;w3;t1;t2;t3;g1"), 6);
    due("put(2)", x.put(2), 0);
    due("bagAt(0)", x.bagAt(0), 1);
    due("bagAt(1)", x.bagAt(1), 3);
    due("bagAt(2)", x.bagAt(2), NONE);
    due("mark", x.load(2, 3), 3);
    due("zone", x.load(2, 1), 1);
    due("heat", x.load(2, 4), 1);
    due("moved", x.count(11), 1);
    due("water", x.caravan(1), 55);
    due("setKind", x.setKind(1, 1), 0);
    String picture = x.picture();
    due("put(1)", x.put(1), NOT_POSSIBLE);
    same(x, "put(1)", picture, 4);
    due("set", x.set(2, 1), 3);
    due("put(1)", x.put(1), 1);
    due("seal", x.seal(), 4);
    due("put(3)", x.put(3), NOT_POSSIBLE);
    due("moved", x.count(11), 2);

    x = new Taped();
    due("perform", told(x, "w1;t1;g1"), 3);
    due("set", x.set(1, 10), 60);
    due("setWell", x.setWell(0, false), 0);
    due("go(9)", x.go(9), 2);
    due("setKind", x.setKind(2, 1), 0);
    due("go(1)", x.go(1), 3);
    due("put(1)", x.put(1), DRY);
    due("put(2)", x.put(2), NOT_POSSIBLE);
    due("put(40)", x.put(40), UNKNOWN);
    due("seal", x.seal(), 6);
    due("put(1)", x.put(1), NOT_POSSIBLE);

    // the last slot seals here, too
    x = new Taped();
    due("lay", x.lay(2, 2), 4);
    due("perform", told(x, "w1;w2;t1;t2;g1;p2;p1"), 7);
    due("sealed", x.zone(1, 4), 1);
    due("slot(1, 0, 0)", x.slot(1, 0, 0), 2);
    due("slot(1, 1, 0)", x.slot(1, 1, 0), 1);
  }

  private static void dropping() {
    Taped x = new Taped();
    due("drop(-1)", x.drop(-1), UNKNOWN);
    due("drop(40)", x.drop(40), UNKNOWN);
    due("drop(3)", x.drop(3), NONE);
    due("count(12)", x.count(12), 0);
    due("perform", told(x, "w1;w2;w3;t1;t2;t3;w4;w4;g1"), 9);
    due("drop(2)", x.drop(2), 2);
    due("bagAt(0)", x.bagAt(0), 1);
    due("bagAt(1)", x.bagAt(1), 3);
    due("bagAt(2)", x.bagAt(2), NONE);
    due("caravan(3)", x.caravan(3), 2);
    due("heat", x.load(2, 4), 0);
    due("place", x.load(2, 0), 0);
    due("drop(2)", x.drop(2), NONE);
    due("drop(4)", x.drop(4), 1);
    due("heat", x.load(4, 4), 0);
    due("place", x.load(4, 0), 0);
    due("caravan(3)", x.caravan(3), 2);
    due("live", x.zone(0, 1), 0);
    due("dead", x.zone(0, 2), 5);
    due("drop(4)", x.drop(4), NONE);
    due("water", x.caravan(1), 54);
    due("write(4)", x.write(4), 0);
    due("heat", x.load(4, 4), 1);
  }

  private static void resetting() {
    Taped x = new Taped();
    due("reset()", x.reset(), NONE);
    due("count(12)", x.count(12), 0);
    due("perform", told(x, "w1;w2;w1;w2"), 4);
    due("reset()", x.reset(), NOT_POSSIBLE);
    due("drop", x.drop(1), 1);
    String picture = x.picture();
    due("reset()", x.reset(), NOT_POSSIBLE);
    same(x, "reset()", picture, 2);
    due("take", x.take(2), 1);
    due("reset()", x.reset(), 4);
    due("zone(0, 0)", x.zone(0, 0), 0);
    due("zone(0, 2)", x.zone(0, 2), 0);
    due("zone(0, 6)", x.zone(0, 6), 1);
    due("slot(0, 0, 0)", x.slot(0, 0, 0), NONE);
    due("count(9)", x.count(9), 1);
    due("water", x.caravan(1), 53);
    due("used", x.caravan(6), 7);
    due("reset()", x.reset(), NONE);
    due("seal", x.seal(), 6);
    due("reset()", x.reset(), 0);
    due("zone(0, 4)", x.zone(0, 4), 0);
    due("zone(0, 6)", x.zone(0, 6), 2);
    due("count(9)", x.count(9), 2);
    due("zone(1, 6)", x.zone(1, 6), 0);
    due("put(2)", x.put(2), 0);

    // a load of the same number in the bag or elsewhere does not hold the zone
    x = new Taped();
    due("perform", told(x, "w1;g1;w1;g3;r"), 5);
    due("load(1, 1)", x.load(1, 1), 1);

    // DRY comes ahead of NONE, and behind NOT_POSSIBLE
    x = new Taped();
    due("set", x.set(1, 10), 60);
    due("setWell", x.setWell(0, false), 0);
    due("perform", told(x, "g4;w1;g3"), 3);
    due("water", x.caravan(1), 2);
    due("reset()", x.reset(), DRY);
    due("seal()", x.seal(), 6);
    due("reset()", x.reset(), DRY);
    due("go(1)", x.go(1), 0);
    due("reset()", x.reset(), NOT_POSSIBLE);
    due("drop", x.drop(1), 1);
    due("reset()", x.reset(), DRY);
    x = new Taped();
    due("set", x.set(1, 10), 60);
    due("setWell", x.setWell(0, false), 0);
    due("perform", told(x, "g6;s;r"), 3);
    due("water", x.caravan(1), 1);
    x = new Taped();
    due("set", x.set(1, 10), 60);
    due("setWell", x.setWell(0, false), 0);
    due("perform", told(x, "g7;s;r"), 3);
    due("water", x.caravan(1), 0);
  }

  private static void sealing() {
    Taped x = new Taped();
    due("seal()", x.seal(), 6);
    due("seal()", x.seal(), NONE);
    due("count(12)", x.count(12), 1);
    due("zone(0, 4)", x.zone(0, 4), 1);
    due("zone(1, 4)", x.zone(1, 4), 0);
    due("write(1)", x.write(1), NOT_POSSIBLE);
    due("water", x.caravan(1), 60);
    due("perform", told(x, "g1;w1;w2"), 3);
    due("seal()", x.seal(), 4);
    due("zone(1, 0)", x.zone(1, 0), 2);
    due("perform", told(x, "g1;w1;w1;w1;w1;w1;w1"), 7);
    due("seal()", x.seal(), NONE);
  }

  private static void cleaning() {
    Taped x = new Taped();
    due("clean()", x.clean(), NONE);
    due("seal", x.seal(), 6);
    due("clean()", x.clean(), NONE);
    due("sealed", x.zone(0, 4), 1);
    due("count(12)", x.count(12), 1);

    // nothing lives: it is only reset
    x = new Taped();
    due("perform", told(x, "w1;w1;d1"), 3);
    due("clean()", x.clean(), 0);
    due("zone(0, 0)", x.zone(0, 0), 0);
    due("zone(0, 6)", x.zone(0, 6), 1);
    due("count(9)", x.count(9), 1);
    due("steps", x.caravan(5), 0);
    due("water", x.caravan(1), 55);

    // by the slots, in the order of the bag, behind what was there before and stays
    x = new Taped();
    due("perform", told(x, "w9;w3;w1;w3;w2;t9;t2"), 7);
    due("put(2)", x.put(2), 5);
    due("sealed", x.zone(0, 4), 1);
    due("clean()", x.clean(), FULL);
    due("set", x.set(0, 4), 3);
    due("clean()", x.clean(), 1);
    due("at", x.caravan(0), 1);
    due("sealed", x.zone(0, 4), 0);
    due("slot(1, 0, 0)", x.slot(1, 0, 0), 1);
    due("slot(1, 1, 0)", x.slot(1, 1, 0), 3);
    due("slot(1, 2, 0)", x.slot(1, 2, 0), 2);
    due("slot(1, 2, 1)", x.slot(1, 2, 1), 8);
    due("zone(1, 0)", x.zone(1, 0), 3);
    due("bagAt(0)", x.bagAt(0), 9);
    due("bagAt(1)", x.bagAt(1), NONE);
    due("heat", x.load(3, 4), 2);
    due("moved", x.count(11), 4);
    due("steps", x.caravan(5), 1);
    due("used", x.caravan(6), 13);
    due("water", x.caravan(1), 47);

    // those that may not be written are passed over; the others go on as far as to the zone itself
    x = new Taped();
    due("lay", x.lay(3, 3), 9);
    due("perform", told(x, "w1;w1;w1;g1;w1;w2;w3;t1"), 8);
    due("put", x.put(1), NOT_POSSIBLE);
    due("perform", told(x, "d3"), 1);
    due("setKind(2, 1)", x.setKind(2, 1), 0);
    due("setKind(0, 2)", x.setKind(0, 2), 0);
    due("perform", told(x, "g2;d1;r;w3;w4;w5;d4;d5;g1"), 9);
    due("set", x.set(2, 1), 3);
    due("drop", x.drop(2), 1);
    due("perform", told(x, "r;w6;w2"), 3);
    due("setKind(1, 2)", x.setKind(1, 2), 0);
    due("setKind(2, 2)", x.setKind(2, 2), 1);
    due("clean()", x.clean(), NOT_POSSIBLE);
    due("setKind(1, 0)", x.setKind(1, 0), 2);
    due("clean()", x.clean(), 3);
    due("at", x.caravan(0), 1);
    due("zone(1, 6)", x.zone(1, 6), 2);
    due("load(6, 1)", x.load(6, 1), 1);
    due("load(6, 2)", x.load(6, 2), 0);
    due("load(2, 2)", x.load(2, 2), 1);

    // a zone that becomes sealed by the first takes no second
    x = new Taped();
    due("lay", x.lay(3, 2), 6);
    due("perform", told(x, "g1;w9;g2;w1;w2"), 5);
    due("clean()", x.clean(), 2);
    due("slot(1, 1, 0)", x.slot(1, 1, 0), 1);
    due("slot(2, 0, 0)", x.slot(2, 0, 0), 2);
    due("at", x.caravan(0), 2);

    // hot ones and others go into different zones; a well on the way fills the skin
    x = new Taped();
    due("perform", told(x, "g1;w1;w1;w1;w2"), 5);
    due("setKind(2, 2)", x.setKind(2, 2), 0);
    due("setKind(3, 1)", x.setKind(3, 1), 0);
    due("setWell(3, true)", x.setWell(3, true), 2);
    due("clean()", x.clean(), 2);
    due("load(2, 1)", x.load(2, 1), 2);
    due("load(1, 1)", x.load(1, 1), 3);
    due("water", x.caravan(1), 59);
    due("moved", x.count(11), 2);

    // the act is one act
    due("undo()", x.undo(), 3);
    due("load(1, 1)", x.load(1, 1), 1);
    due("zone(1, 6)", x.zone(1, 6), 0);
    due("count(9)", x.count(9), 0);
    due("count(11)", x.count(11), 0);
  }

  private static void cleaningRefused() {
    // FULL comes ahead of DRY, and loads in the bag take room; the heat of none is changed
    Taped x = new Taped();
    due("set", x.set(1, 10), 60);
    due("setWell", x.setWell(0, false), 0);
    due("perform", told(x, "w1;w2;w3;w4;t4;g4;w4"), NOT_POSSIBLE);
    due("perform", told(x, "w1;w2;w3;w4;t4"), 5);
    due("clean()", x.clean(), FULL);
    due("set", x.set(0, 4), 3);
    due("water", x.caravan(1), 6);
    String picture = x.picture();
    due("clean()", x.clean(), DRY);
    same(x, "clean()", picture, 4);
    due("set", x.set(0, 0), NOT_POSSIBLE);
    due("drop", x.drop(1), 1);
    due("clean()", x.clean(), 1);
    due("water", x.caravan(1), 0);
    due("zone(1, 0)", x.zone(1, 0), 2);
    due("clean()", x.clean(), DRY);
    due("bagAt(0)", x.bagAt(0), 4);

    // one unit of water less than each part needs
    String[] enough = {"w1;d1;g4;w5;d5;w5;d5;c", "w1;g4;c"};
    String[] less = {"w1;d1;g4;w5;d5;w5;d5;w5;d5;c", "w1;d1;g8;c", "w1;g4;w1;c", "w1;g4;w1;w1;c"};
    for (String text : enough) {
      x = dryLand();
      due(text, told(x, text), (text.length() + 1) / 3 + 1);
      due("water", x.caravan(1), 0);
    }
    for (String text : less) { dueRefused(dryLand(), text, DRY); }

    // what may be put down nowhere: DRY if the way round is too long for the water, too
    x = dryLand();
    due("perform", told(x, "w1;w1;w1"), 3);
    for (int zone = 0; zone < 4; zone++) { due("setKind", x.setKind(zone, 1), 0); }
    due("set", x.set(2, 4), 3);
    dueRefused(x, "c", NOT_POSSIBLE);
    due("setKind", x.setKind(0, 0), 1);
    due("write", x.write(2), 3);
    due("setKind", x.setKind(0, 1), 0);
    due("water", x.caravan(1), 6);
    dueRefused(x, "c", DRY);
    due("clean()", x.clean(), DRY);
  }

  /** No wells, and ten units of water. */
  private static Taped dryLand() {
    Taped x = new Taped();
    x.set(1, 10);
    x.setWell(0, false);
    return x;
  }

  private static void dusks() {
    Taped x = new Taped();
    due("dusk()", x.dusk(), 0);
    due("count(12)", x.count(12), 1);
    due("perform", told(x, "w1;w1;w1;w2;w2;w2;g1;w3;w3;w3;w3;w3;w3"), 13);
    due("take", x.take(3), 1);
    due("heat", x.load(3, 4), 6);
    due("count(6)", x.count(6), 3);
    due("dusk()", x.dusk(), 2);
    due("heat", x.load(1, 4), 1);
    due("heat", x.load(3, 4), 3);
    due("hot", x.load(3, 5), 1);
    due("dusk()", x.dusk(), 1);
    due("heat", x.load(1, 4), 0);
    due("heat", x.load(3, 4), 1);
    due("count(12)", x.count(12), 4);
    due("dusk()", x.dusk(), 0);
    due("heat", x.load(3, 4), 0);

    // the first load and the last one
    x = new Taped();
    due("perform", told(x, "w0;w0;w39;w39"), 4);
    due("set", x.set(2, 2), 3);
    due("count(6)", x.count(6), 2);
    due("dusk()", x.dusk(), 2);
    due("count(6)", x.count(6), 0);
    due("heat", x.load(0, 4), 1);
    due("heat", x.load(39, 4), 1);
  }

  private static void typing() {
    Taped x = new Taped();
    char[] odd = {(char) 0, (char) 65535, ';', ' ', 'G'};
    for (int i = 0; i < 60; i++) { due("type", x.type(odd[i % odd.length]), i + 1); }
    due("count(13)", x.count(13), 60);
    due("type", x.type('r'), FULL);
    due("type", x.type((char) 0), FULL);
    due("count(13)", x.count(13), 60);
    due("count(12)", x.count(12), 0);
    due("perform", x.perform(), -100);
  }

  private static void clearing() {
    Taped x = new Taped();
    due("clearText()", x.clearText(), 0);
    due("type", x.type('s'), 1);
    due("type", x.type('x'), 2);
    due("clearText()", x.clearText(), 2);
    due("clearText()", x.clearText(), 0);
    due("count(13)", x.count(13), 0);
    due("perform", x.perform(), -100);
    due("type", x.type('s'), 1);
    due("perform", x.perform(), 1);
    due("undo", x.undo(), 0);
    due("clearText()", x.clearText(), 1);
    due("count(12)", x.count(12), 0);
  }

  private static void faults() {
    Taped x = new Taped();
    Object[][] texts = {
      {"", 0}, {";", 0}, {"x", 0}, {"G1", 0}, {"1", 0}, {" r", 0}, {"\u0000", 0},
      {"r;", 2}, {"r;;", 2}, {"r; s", 2}, {"rs", 1}, {"r1", 1}, {"s0", 1}, {"c9", 1}, {"r ", 1},
      {"g", 1}, {"w", 1}, {"t", 1}, {"p", 1}, {"d", 1}, {"g;", 1}, {"gg", 1}, {"w-1", 1}, {"w:", 1}, {"w/", 1},
      {"g00", 2}, {"w01", 2}, {"d09;r", 2}, {"g123", 3}, {"w999;", 3}, {"w12w", 3}, {"w1w", 2}, {"w1 ", 2}, {"w1:", 2}, {"w1/", 2},
      {"w1;", 3}, {"w12;", 4}, {"g1;w", 4}, {"g1;w2;t;", 7}, {"s;r;c;x", 6}, {"g0;\u0661", 3}, {"g\uff11", 1}, {"w\u0661", 1}, {"w1\uff11", 2},
      {"a0", 0}, {"b", 0}, {"e1", 0}, {"q1", 0}, {"u1", 0}, {"v1", 0}, {"h1", 0}, {"f1", 0}, {"S", 0},
      {"r;r;r;r;r;r;r;r;r;r;r;r;r;r;r;r;r;r;r;r;r;r;r;r;r;r;r;r;r;r;", 60},
      {"r;r;r;r;r;r;r;r;r;r;r;r;r;r;r;r;r;r;r;r;r;r;r;r;r;r;r;r;r;w1", NO_FAULT},
      {"w1;w1;w1;w1;w1;w1;w1;w1;w1;w1;w1;w1;w1;w1;w1;w1;w1;w1;w1;g1;", 60},
    };
    for (Object[] text : texts) {
      int fault = (Integer) text[1];
      if (fault != NO_FAULT) { dueRefused(x, (String) text[0], -100 - fault); }
    }
    // a fault behind orders that could be done, and an error ahead of a fault: nothing is done
    dueRefused(x, "w1;w2;x", -106);
    dueRefused(x, "w40;x", -104);
    due("count(12)", x.count(12), 0);
  }

  private static final int NO_FAULT = -1;

  private static void performing() {
    Taped x = new Taped();
    dueRefused(x, "g0", BAD_VALUE);
    dueRefused(x, "g25", BAD_VALUE);
    dueRefused(x, "w40", UNKNOWN);
    dueRefused(x, "w99", UNKNOWN);
    dueRefused(x, "t99", UNKNOWN);
    dueRefused(x, "p40", UNKNOWN);
    dueRefused(x, "d40", UNKNOWN);
    dueRefused(x, "w1;t2;w40", NOT_POSSIBLE);
    dueRefused(x, "w1;w2;w3;w4;t1;t2;t3;t4", FULL);
    dueRefused(x, "w1;w2;w3;w4;c", FULL);
    dueRefused(x, "w1;r", NOT_POSSIBLE);
    due("count(12)", x.count(12), 0);
    String before = x.picture();
    due("perform", told(x, "w1;g1;s;g1;s;g1;s;g1;c"), 9);
    due("load(1, 1)", x.load(1, 1), 0);
    due("load(1, 2)", x.load(1, 2), 0);
    due("zone(0, 6)", x.zone(0, 6), 1);
    due("steps", x.caravan(5), 8);
    due("count(12)", x.count(12), 1);
    due("count(13)", x.count(13), 22);
    due("perform", x.perform(), 9);
    due("load(1, 4)", x.load(1, 4), 2);
    due("zone(0, 6)", x.zone(0, 6), 2);
    due("steps", x.caravan(5), 16);
    due("count(12)", x.count(12), 2);
    due("undo", x.undo(), 1);
    due("undo", x.undo(), 0);
    same(x, "undo()", before, 0);
    due("count(13)", x.count(13), 22);

    // NONE is no error, and the act is recorded
    due("perform", told(x, "d5"), 1);
    due("perform", told(x, "c;r;d0"), 3);
    due("count(12)", x.count(12), 2);
    same(x, "c;r;d0", before, 2);
    due("perform", told(x, "s;s;s"), 3);
    due("count(12)", x.count(12), 3);
    due("perform", told(x, "s;s;s;s;s;s;s;s;s;s;s;s;s;s;s;s;s;s;s;s;s;s;s;s;s;s;s;s;s;s"), 30);
    due("count(13)", x.count(13), 59);
    due("count(12)", x.count(12), 4);

    // each letter does its order, with one digit and with two
    x = new Taped();
    due("perform", told(x, "w0;w39;w10;w9"), 4);
    int[] written = {0, 39, 10, 9};
    for (int slot = 0; slot < 4; slot++) { due("slot", x.slot(0, slot, 0), written[slot]); }
    due("perform", told(x, "t39;d10;t0"), 3);
    due("bagAt(0)", x.bagAt(0), 39);
    due("bagAt(1)", x.bagAt(1), 0);
    due("place", x.load(10, 0), 0);
    due("perform", told(x, "g10;p39;s"), 3);
    due("at", x.caravan(0), 2);
    due("load(39, 1)", x.load(39, 1), 2);
    due("sealed", x.zone(2, 4), 1);
    due("perform", told(x, "g24;d39;r;p0;g2;c"), 6);
    due("resets", x.zone(2, 6), 1);
    due("resets", x.zone(0, 6), 1);
    due("load(9, 1)", x.load(9, 1), 1);

    // the first error is told, and only when its turn comes
    x = new Taped();
    dueRefused(x, "w1;t1;w40;g0", UNKNOWN);
    dueRefused(x, "w1;t1;g0;w40", BAD_VALUE);
    dueRefused(dryLand(), "g9;w1;w1", DRY);
    dueRefused(dryLand(), "g8;s;r", DRY);
    dueRefused(dryLand(), "g11", DRY);
    due("perform", told(x, "w1;t1;w2;d1;r"), NOT_POSSIBLE);
    due("perform", told(x, "w1;t1;w2;d1;d2;r;w3"), 7);
  }

  private static void undoing() {
    Taped x = new Taped();
    for (int load = 0; load < 5; load++) { due("write", x.write(load), load); }
    due("count(12)", x.count(12), 4);
    for (int left = 3; left >= 0; left--) {
      due("undo()", x.undo(), left);
      due("count(8)", x.count(8), left + 1);
      due("zone(0, 0)", x.zone(0, 0), left + 1);
    }
    due("undo()", x.undo(), NONE);
    due("load(0, 0)", x.load(0, 0), 1);
    due("load(1, 0)", x.load(1, 0), 0);
    due("write", x.write(7), 1);
    due("write", x.write(8), 2);
    due("undo()", x.undo(), 1);
    for (int i = 0; i < 3; i++) { due("write", x.write(9), 2 + i); }
    due("count(12)", x.count(12), 4);
    for (int left = 3; left >= 1; left--) { due("undo()", x.undo(), left); }
    due("load(9, 0)", x.load(9, 0), 0);
    due("load(7, 0)", x.load(7, 0), 1);
    due("undo()", x.undo(), 0);
    due("load(7, 0)", x.load(7, 0), 0);

    // neither the text nor the snapshot is taken back, and neither is recorded
    x = new Taped();
    due("type", x.type('s'), 1);
    due("keep", x.keep(), 0);
    due("undo()", x.undo(), NONE);
    due("seal", x.seal(), 6);
    due("type", x.type(';'), 2);
    due("keep", x.keep(), 0);
    due("undo()", x.undo(), 0);
    due("count(13)", x.count(13), 2);
    due("zone(0, 4)", x.zone(0, 4), 0);
    due("restore", x.restore(), 0);
    due("zone(0, 4)", x.zone(0, 4), 1);

    // slots that were written anew have their loads and marks again
    x = new Taped();
    due("perform", told(x, "w1;w2;w3;w1;t1;t2;t3"), 7);
    String before = x.picture();
    due("perform", told(x, "r;p3;p1;w9;w9;w9"), 6);
    due("slot(0, 0, 0)", x.slot(0, 0, 0), 3);
    due("undo()", x.undo(), 1);
    same(x, "undo()", before, 1);
    due("slot(0, 0, 0)", x.slot(0, 0, 0), 1);
    due("slot(0, 3, 1)", x.slot(0, 3, 1), 3);
    due("scan(1)", x.scan(1), 3);
  }

  /** Loads in several zones and in the bag, and free slots where the caravan is. */
  private static Taped busy() {
    Taped x = new Taped();
    x.lay(4, 9);
    x.set(0, 4);
    x.set(2, 2);
    told(x, "w1;w1;w2;w3;t2;g1;w4;w5;w4;t5;g3;w1;w6");
    x.setKind(3, 1);
    x.setWell(2, true);
    return x;
  }

  private static int act(Taped x, int number) {
    switch (number) {
      case 0: return x.setKind(1, 2);
      case 1: return x.setWell(1, true);
      case 2: return x.setWell(0, false);
      case 3: return x.set(0, 2);
      case 4: return x.set(1, 11);
      case 5: return x.set(2, 9);
      case 6: return x.go(7);
      case 7: return x.write(1);
      case 8: return x.take(3);
      case 9: return x.put(2);
      case 10: return x.drop(1);
      case 11: return x.drop(5);
      case 12: return x.seal();
      case 13: return x.set(0, 6) >= 0 ? x.clean() : DRY;
      case 14: return x.dusk();
      case 15: return told(x, "d2;w7;g3;w1;g1");
      case 16: return told(x, "s");
      case 17: return x.restore();
      case 18: return told(x, "d1;d3;d6") == 3 ? x.reset() : DRY;
      case 19: return told(x, "d1;d3;d6;g1;d4") == 5 ? x.lay(5, 5) : DRY;
      default: return NONE;
    }
  }

  private static void undoingEachAct() {
    for (int number = 0; number < 20; number++) {
      Taped x = busy();
      x.keep();
      due("set", x.set(1, 77), 60);
      String before = x.picture();
      int twice = number == 13 || number == 18 || number == 19 ? 2 : 1;
      due("act " + number, act(x, number) >= 0 ? 1 : 0, 1);
      String after = x.picture();
      if (after.equals(before)) { due("act " + number + " did something", 0, 1); }
      due("count(12)", x.count(12), 4);
      for (int i = 0; i < twice; i++) { due("undo after act " + number, x.undo(), 3 - i); }
      same(x, "undo() after act " + number, before, 4 - twice);
    }
  }

  private static void keeping() {
    Taped x = new Taped();
    due("keep()", x.keep(), 0);
    due("count(12)", x.count(12), 0);
    due("perform", told(x, "w1;w2"), 2);
    due("keep()", x.keep(), 2);
    due("perform", told(x, "w3"), 1);
    String before = x.picture();
    int states = x.count(12);
    due("undo", x.undo(), 1);
    due("restore", x.restore(), 2);
    due("load(2, 0)", x.load(2, 0), 1);
    due("load(3, 0)", x.load(3, 0), 0);
    due("write", x.write(3), 2);
    same(x, "keep()", before, states + 1);
  }

  private static void restoring() {
    Taped x = new Taped();
    due("restore()", x.restore(), NONE);
    due("count(12)", x.count(12), 0);
    due("perform", told(x, "w1;w2;t2"), 3);
    due("keep", x.keep(), 2);
    String kept = x.picture();
    due("perform", told(x, "p2;g1;w4;w5"), 4);
    due("lay", x.lay(8, 8), NOT_POSSIBLE);
    due("set", x.set(1, 99), 60);
    due("dusk", x.dusk(), 0);
    String later = x.picture();
    due("restore()", x.restore(), 2);
    same(x, "restore()", kept, 4);
    due("count(13)", x.count(13), 11);
    due("restore()", x.restore(), 2);
    same(x, "restore()", kept, 4);
    due("undo", x.undo(), 3);
    same(x, "undo()", kept, 3);
    due("undo", x.undo(), 2);
    same(x, "undo()", later, 2);
    due("drop", x.drop(1), 1);
    due("restore()", x.restore(), 2);
    same(x, "restore()", kept, 4);
    due("lay", x.lay(2, 2), NOT_POSSIBLE);
    due("drop", x.drop(1), 1);
    due("lay", x.lay(2, 2), 4);
    due("restore()", x.restore(), 2);
    same(x, "restore()", kept, 4);
    due("count(0)", x.count(0), 4);
  }

  private static void tellingZones() {
    Taped x = new Taped();
    due("zone(-1, 0)", x.zone(-1, 0), UNKNOWN);
    due("zone(4, 0)", x.zone(4, 0), UNKNOWN);
    due("zone(4, 8)", x.zone(4, 8), UNKNOWN);
    due("zone(0, 8)", x.zone(0, 8), BAD_VALUE);
    due("zone(3, -1)", x.zone(3, -1), BAD_VALUE);
    due("perform", told(x, "g2;w1;w2;w1;w3;d3;r"), NOT_POSSIBLE);
    due("perform", told(x, "g2;s;r;s;r;w1;w2;w1;w3;d3;s;g1"), 12);
    due("setKind", x.setKind(2, 2), 0);
    due("setWell", x.setWell(2, true), 2);
    int[] tells = {4, 2, 2, 2, 1, 1, 2, 3};
    for (int what = 0; what < 8; what++) { due("zone(2, " + what + ")", x.zone(2, what), tells[what]); }
    int[] steps = {1, 2, 3, 0};
    for (int zone = 0; zone < 4; zone++) { due("zone(" + zone + ", 7)", x.zone(zone, 7), steps[zone]); }
    due("count(12)", x.count(12), 3);

    // a zone with as many slots as there may be ends where the next one begins
    x = new Taped();
    due("lay", x.lay(2, 12), 24);
    for (int load = 0; load < 12; load++) { due("write", x.write(load), load); }
    due("perform", told(x, "g1;w20"), 2);
    due("zone(0, 1)", x.zone(0, 1), 12);
    due("zone(0, 2)", x.zone(0, 2), 0);
    due("zone(1, 1)", x.zone(1, 1), 1);
  }

  private static void tellingSlots() {
    Taped x = new Taped();
    due("slot(-1, 0, 0)", x.slot(-1, 0, 0), UNKNOWN);
    due("slot(4, 0, 0)", x.slot(4, 0, 0), UNKNOWN);
    due("slot(0, -1, 0)", x.slot(0, -1, 0), UNKNOWN);
    due("slot(0, 6, 0)", x.slot(0, 6, 0), UNKNOWN);
    due("slot(0, 6, 3)", x.slot(0, 6, 3), UNKNOWN);
    due("slot(0, 0, 3)", x.slot(0, 0, 3), BAD_VALUE);
    due("slot(0, 0, -1)", x.slot(0, 0, -1), BAD_VALUE);
    due("slot(0, 0, 0)", x.slot(0, 0, 0), NONE);
    due("perform", told(x, "w7;w8;g1;w7;w9;t9"), 6);
    int[][] tells = {{0, 0, 7, 0, 0}, {0, 1, 8, 1, 1}, {1, 0, 7, 2, 1}, {1, 1, 9, 3, 0}};
    for (int[] tell : tells) {
      for (int what = 0; what < 3; what++) { due("slot", x.slot(tell[0], tell[1], what), tell[2 + what]); }
    }
    for (int what = 0; what < 3; what++) { due("slot(1, 2, " + what + ")", x.slot(1, 2, what), NONE); }
    due("slot(1, 2, 3)", x.slot(1, 2, 3), BAD_VALUE);
    due("slot(0, 0, 3)", x.slot(0, 0, 3), BAD_VALUE);
    due("slot(1, 5, 0)", x.slot(1, 5, 0), NONE);

    // a slot that was given up and written again by the same load is live only once
    due("perform", told(x, "d7;w7"), 2);
    due("slot(1, 0, 2)", x.slot(1, 0, 2), 0);
    due("slot(1, 2, 2)", x.slot(1, 2, 2), 1);
  }

  private static void tellingLoads() {
    Taped x = new Taped();
    due("load(-1, 0)", x.load(-1, 0), UNKNOWN);
    due("load(40, 0)", x.load(40, 0), UNKNOWN);
    due("load(40, 7)", x.load(40, 7), UNKNOWN);
    due("load(0, 7)", x.load(0, 7), BAD_VALUE);
    due("load(0, -1)", x.load(0, -1), BAD_VALUE);
    due("perform", told(x, "w1;w2;g3;w3;w3;w3;w39;w4;t4;t39"), 10);
    int[][] tells = {
      {0, 0, NONE, NONE, NONE, 0, 0, NONE},
      {1, 1, 0, 0, 0, 1, 0, NONE},
      {2, 1, 0, 1, 1, 1, 0, NONE},
      {3, 1, 3, 2, 4, 3, 1, NONE},
      {4, 2, NONE, NONE, NONE, 1, 0, 0},
      {39, 2, NONE, NONE, NONE, 1, 0, 1},
    };
    for (int[] tell : tells) {
      for (int what = 0; what < 7; what++) { due("load(" + tell[0] + ", " + what + ")", x.load(tell[0], what), tell[1 + what]); }
    }
    due("set", x.set(2, 4), 3);
    due("hot", x.load(3, 5), 0);
    due("set", x.set(2, 1), 4);
    due("hot", x.load(39, 5), 1);
    due("hot", x.load(0, 5), 0);
    due("drop", x.drop(3), 1);
    due("load(3, 2)", x.load(3, 2), NONE);
  }

  private static void scanning() {
    Taped x = new Taped();
    due("scan(-1)", x.scan(-1), UNKNOWN);
    due("scan(40)", x.scan(40), UNKNOWN);
    due("scan(0)", x.scan(0), NONE);
    due("perform", told(x, "w0;w1;w1;g3;w0;w2;w1;g1;w1"), 9);
    due("scan(0)", x.scan(0), 300);
    due("scan(1)", x.scan(1), 3);
    due("scan(2)", x.scan(2), 301);
    due("perform", told(x, "d1;d0"), 2);
    due("scan(0)", x.scan(0), 300);
    due("scan(1)", x.scan(1), 3);
    due("reset", x.reset(), 4);
    due("scan(1)", x.scan(1), 302);
    due("perform", told(x, "g3;t2;r"), 3);
    due("scan(0)", x.scan(0), NONE);
    due("scan(1)", x.scan(1), NONE);
    due("scan(2)", x.scan(2), NONE);
    x = new Taped();
    due("lay", x.lay(8, 12), 96);
    due("perform", told(x, "g7;w5;w6;w6;w6;w6;w6;w6;w6;w6;w6;w6;w5"), 13);
    due("scan(5)", x.scan(5), 711);
  }

  private static void tellingTheCaravan() {
    Taped x = new Taped();
    due("caravan(-1)", x.caravan(-1), BAD_VALUE);
    due("caravan(7)", x.caravan(7), BAD_VALUE);
    due("perform", told(x, "w1;w2;t1;g1;p1;g2;t2"), NOT_POSSIBLE);
    due("perform", told(x, "w1;w2;t1;t2;g1;p1;g2;s;r"), 9);
    due("set", x.set(0, 5), 3);
    due("set", x.set(1, 80), 60);
    int[] tells = {3, 51, 80, 1, 5, 3, 9};
    for (int what = 0; what < 7; what++) { due("caravan(" + what + ")", x.caravan(what), tells[what]); }
    due("go", x.go(1), 0);
    due("water", x.caravan(1), 80);
    due("used", x.caravan(6), 10);
    due("undo", x.undo(), 3);
    due("used", x.caravan(6), 9);
    due("steps", x.caravan(5), 3);
    due("water", x.caravan(1), 51);
  }

  private static void tellingTheBag() {
    Taped x = new Taped();
    due("bagAt(-1)", x.bagAt(-1), BAD_VALUE);
    due("bagAt(MIN)", x.bagAt(Integer.MIN_VALUE), BAD_VALUE);
    due("bagAt(0)", x.bagAt(0), NONE);
    due("set", x.set(0, 6), 3);
    due("perform", told(x, "w1;w2;w3;w4;w5;w6;t6;t1;t5;t2;t4;t3"), 12);
    int[] bag = {6, 1, 5, 2, 4, 3, NONE, NONE};
    for (int place = 0; place < 8; place++) { due("bagAt(" + place + ")", x.bagAt(place), bag[place]); }
    due("bagAt(MAX)", x.bagAt(Integer.MAX_VALUE), NONE);
    due("perform", told(x, "g1;p5;d6;p3"), 4);
    int[] rest = {1, 2, 4, NONE, NONE, NONE, NONE};
    for (int place = 0; place < 7; place++) { due("bagAt(" + place + ")", x.bagAt(place), rest[place]); }
    due("load(4, 6)", x.load(4, 6), 2);
  }

  private static void ways() {
    Taped x = new Taped();
    due("waterTo(-1)", x.waterTo(-1), UNKNOWN);
    due("waterTo(4)", x.waterTo(4), UNKNOWN);
    for (int zone = 0; zone < 4; zone++) { due("waterTo", x.waterTo(zone), zone); }
    due("lay", x.lay(8, 2), 16);
    for (int zone = 0; zone < 8; zone++) { due("waterTo", x.waterTo(zone), zone); }
    due("go", x.go(5), 5);
    int[] water = {3, 3, 3, 3, 3, 0, 1, 2};
    for (int zone = 0; zone < 8; zone++) { due("waterTo(" + zone + ")", x.waterTo(zone), water[zone]); }
    due("setWell", x.setWell(7, true), 2);
    due("setWell", x.setWell(5, true), 3);
    due("setWell", x.setWell(2, true), 4);
    int[] less = {2, 2, 2, 2, 2, 0, 1, 2};
    for (int zone = 0; zone < 8; zone++) { due("waterTo(" + zone + ")", x.waterTo(zone), less[zone]); }
    due("setWell", x.setWell(7, false), 3);
    due("setWell", x.setWell(0, false), 2);
    int[] more = {3, 4, 5, 5, 5, 0, 1, 2};
    for (int zone = 0; zone < 8; zone++) { due("waterTo(" + zone + ")", x.waterTo(zone), more[zone]); }
    due("count(12)", x.count(12), 4);
  }

  private static void worstZones() {
    Taped x = new Taped();
    due("worst()", x.worst(), NONE);
    due("write", x.write(1), 0);
    due("worst()", x.worst(), NONE);
    due("write", x.write(1), 1);
    due("worst()", x.worst(), 0);
    // the fewest live ones come ahead of the most dead ones
    due("perform", told(x, "w1;w1;w2;g2;w3;w3"), 6);
    due("zone(0, 1)", x.zone(0, 1), 2);
    due("zone(0, 2)", x.zone(0, 2), 3);
    due("worst()", x.worst(), 2);
    // as many live ones: the most dead ones
    due("drop", x.drop(2), 1);
    due("zone(0, 1)", x.zone(0, 1), 1);
    due("worst()", x.worst(), 0);
    due("perform", told(x, "w3;w3;w3"), 3);
    due("zone(2, 2)", x.zone(2, 2), 4);
    // as many of both: the nearest ahead
    due("worst()", x.worst(), 2);
    due("go", x.go(1), 3);
    due("worst()", x.worst(), 0);
    due("go", x.go(1), 0);
    due("worst()", x.worst(), 0);
    due("go", x.go(1), 1);
    due("worst()", x.worst(), 2);
    due("seal", x.seal(), 6);
    due("write", x.write(9), NOT_POSSIBLE);
    due("worst()", x.worst(), 2);
    // a zone with live ones alone is none of them
    x = new Taped();
    due("perform", told(x, "w1;g1;w2;g1;w3;w4;w5;w5"), 8);
    due("worst()", x.worst(), 2);
    due("go", x.go(1), 3);
    due("worst()", x.worst(), 2);
  }

  private static void nearestZones() {
    Taped x = new Taped();
    due("nearestFor(-1)", x.nearestFor(-1), UNKNOWN);
    due("nearestFor(40)", x.nearestFor(40), UNKNOWN);
    due("nearestFor(39)", x.nearestFor(39), 0);
    due("go", x.go(2), 2);
    due("nearestFor(0)", x.nearestFor(0), 2);
    due("perform", told(x, "w1;w1;w1;w2;w2;s"), 6);
    due("setKind", x.setKind(3, 1), 0);
    due("setKind", x.setKind(0, 2), 0);
    due("nearestFor(1)", x.nearestFor(1), 3);
    due("nearestFor(2)", x.nearestFor(2), 0);
    due("nearestFor(0)", x.nearestFor(0), 0);
    due("take", x.take(1), 1);
    due("nearestFor(1)", x.nearestFor(1), 3);
    due("perform", told(x, "g1;s;g1"), 3);
    due("nearestFor(1)", x.nearestFor(1), 1);
    due("nearestFor(2)", x.nearestFor(2), 0);
    due("perform", told(x, "g1;s"), 2);
    due("nearestFor(1)", x.nearestFor(1), NONE);
    due("nearestFor(2)", x.nearestFor(2), 0);
    due("perform", told(x, "g3;s"), 2);
    due("nearestFor(2)", x.nearestFor(2), NONE);
    due("reset", x.reset(), 0);
    due("set", x.set(2, 4), 3);
    due("nearestFor(1)", x.nearestFor(1), 0);
    x = new Taped();
    due("lay", x.lay(2, 2), 4);
    due("perform", told(x, "w1;w1"), 2);
    due("nearestFor(1)", x.nearestFor(1), 1);
    due("perform", told(x, "g1;w1;w1"), 3);
    due("nearestFor(1)", x.nearestFor(1), NONE);
  }

  private static void counting() {
    Taped x = new Taped();
    due("count(-1)", x.count(-1), BAD_VALUE);
    due("count(14)", x.count(14), BAD_VALUE);
    due("lay", x.lay(5, 3), 15);
    due("perform", told(x, "w1;w1;w1;g1;w2;w3;t3;g1;p3;s"), 10);
    due("setWell", x.setWell(3, true), 2);
    due("set", x.set(2, 2), 3);
    due("clearText", x.clearText(), 28);
    due("type", x.type('c'), 1);
    int[] tells = {5, 3, 3, 3, 9, 2, 1, 2, 6, 0, 2, 1, 4, 1};
    for (int what = 0; what < 14; what++) { due("count(" + what + ")", x.count(what), tells[what]); }
    due("perform", x.perform(), 1);
    due("count(9)", x.count(9), 1);
    due("count(11)", x.count(11), 2);
    due("count(2)", x.count(2), 3);
    due("count(8)", x.count(8), 7);
    due("count(4)", x.count(4), 9);
    due("perform", told(x, "d1;d2;d3;g1"), 4);
    due("lay", x.lay(2, 2), 4);
    due("count(9)", x.count(9), 1);
    due("count(11)", x.count(11), 2);
    due("count(8)", x.count(8), 7);
    due("count(3)", x.count(3), 0);
    due("undo", x.undo(), 3);
    due("count(12)", x.count(12), 3);
    due("count(3)", x.count(3), 6);
  }
}
