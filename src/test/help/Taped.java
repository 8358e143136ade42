import java.util.ArrayList;
import java.util.List;
import java.util.function.ToIntFunction;

/**
 * A CaravanZones whose calls are kept. All that there is to be told is asked of fresh objects on which the same
 * calls were made: an object answers 512 calls, and the questions must not be among those of the test.
 */
public final class Taped {
  public static final int CALLS = 512;
  private static final int HISTORY = 4;

  private final CaravanZones object = new CaravanZones();
  private final List<ToIntFunction<CaravanZones>> tape = new ArrayList<>();

  private int call(ToIntFunction<CaravanZones> call) {
    if (tape.size() == CALLS) { throw new IllegalStateException("a test makes more than 512 calls on an object"); }
    tape.add(call);
    return call.applyAsInt(object);
  }

  public int lay(int zones, int slots) { return call(x -> x.lay(zones, slots)); }
  public int setKind(int zone, int kind) { return call(x -> x.setKind(zone, kind)); }
  public int setWell(int zone, boolean is) { return call(x -> x.setWell(zone, is)); }
  public int set(int what, int value) { return call(x -> x.set(what, value)); }
  public int go(int steps) { return call(x -> x.go(steps)); }
  public int write(int load) { return call(x -> x.write(load)); }
  public int take(int load) { return call(x -> x.take(load)); }
  public int put(int load) { return call(x -> x.put(load)); }
  public int drop(int load) { return call(x -> x.drop(load)); }
  public int reset() { return call(CaravanZones::reset); }
  public int seal() { return call(CaravanZones::seal); }
  public int clean() { return call(CaravanZones::clean); }
  public int dusk() { return call(CaravanZones::dusk); }
  public int type(char character) { return call(x -> x.type(character)); }
  public int clearText() { return call(CaravanZones::clearText); }
  public int perform() { return call(CaravanZones::perform); }
  public int undo() { return call(CaravanZones::undo); }
  public int keep() { return call(CaravanZones::keep); }
  public int restore() { return call(CaravanZones::restore); }
  public int zone(int zone, int what) { return call(x -> x.zone(zone, what)); }
  public int slot(int zone, int slot, int what) { return call(x -> x.slot(zone, slot, what)); }
  public int load(int load, int what) { return call(x -> x.load(load, what)); }
  public int scan(int load) { return call(x -> x.scan(load)); }
  public int caravan(int what) { return call(x -> x.caravan(what)); }
  public int bagAt(int place) { return call(x -> x.bagAt(place)); }
  public int waterTo(int zone) { return call(x -> x.waterTo(zone)); }
  public int worst() { return call(CaravanZones::worst); }
  public int nearestFor(int load) { return call(x -> x.nearestFor(load)); }
  public int count(int what) { return call(x -> x.count(what)); }

  /** Types a text in place of the one that is there. */
  public void text(String text) {
    clearText();
    for (int i = 0; i < text.length(); i++) { type(text.charAt(i)); }
  }

  /** The state: two states that tell the same are the same text. */
  public String picture() {
    return pictureAfter(List.of());
  }

  /** The state, the history with each state in it, the snapshot, and the text with what it does. */
  public String whole() {
    StringBuilder all = new StringBuilder(picture());
    CaravanZones x = replay(List.of());
    all.append("| states and signs ").append(x.count(12)).append(' ').append(x.count(13));
    all.append("| perform ").append(pictureAfter(List.of(CaravanZones::perform)));
    all.append("| restore ").append(pictureAfter(List.of(CaravanZones::restore)));
    List<ToIntFunction<CaravanZones>> undone = new ArrayList<>();
    for (int i = 0; i <= HISTORY; i++) {
      undone.add(CaravanZones::undo);
      all.append("| undo ").append(pictureAfter(undone));
    }
    return all.toString();
  }

  /** The answers to some calls more, and to all questions then. */
  private String pictureAfter(List<ToIntFunction<CaravanZones>> more) {
    StringBuilder all = new StringBuilder();
    CaravanZones x = replay(List.of());
    for (ToIntFunction<CaravanZones> call : more) { all.append(call.applyAsInt(x)).append(": "); }
    x = replay(more);
    List<ToIntFunction<CaravanZones>> questions = questions(x.count(0), x.count(1));
    int room = CALLS - tape.size() - more.size();
    for (int asked = 0; asked < questions.size(); asked++) {
      if (asked % room == 0) { x = replay(more); }
      all.append(questions.get(asked).applyAsInt(x)).append(' ');
    }
    return all.toString();
  }

  private CaravanZones replay(List<ToIntFunction<CaravanZones>> more) {
    if (tape.size() + more.size() + 2 > CALLS) { throw new IllegalStateException("no calls are left for questions"); }
    CaravanZones x = new CaravanZones();
    for (ToIntFunction<CaravanZones> call : tape) { call.applyAsInt(x); }
    for (ToIntFunction<CaravanZones> call : more) { call.applyAsInt(x); }
    return x;
  }

  private static List<ToIntFunction<CaravanZones>> questions(int zones, int slots) {
    List<ToIntFunction<CaravanZones>> all = new ArrayList<>();
    for (int i = 0; i <= 11; i++) { int what = i; all.add(x -> x.count(what)); }
    for (int i = 0; i <= 6; i++) { int what = i; all.add(x -> x.caravan(what)); }
    for (int i = 0; i <= 6; i++) { int place = i; all.add(x -> x.bagAt(place)); }
    for (int i = 0; i < 40 * 7; i++) { int load = i / 7, what = i % 7; all.add(x -> x.load(load, what)); }
    for (int i = 0; i < zones * 8; i++) { int zone = i / 8, what = i % 8; all.add(x -> x.zone(zone, what)); }
    for (int i = 0; i < zones * slots * 3; i++) {
      int zone = i / 3 / slots, slot = i / 3 % slots, what = i % 3;
      all.add(x -> x.slot(zone, slot, what));
    }
    return all;
  }
}
