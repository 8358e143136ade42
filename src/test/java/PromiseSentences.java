import java.io.IOException;

/** A test for each sentence of the promises 1 to 30, with the boundary cases that it names. */
public final class PromiseSentences {
  private static final Sentences s = new Sentences("PromiseSentences");
  private static final String ACT = "This is an act.";
  private static final String A_ZONE = "- `zone`: a zone";
  private static final String A_LOAD = "- `load`: 0 to 39";

  /** No well is left, and there are ten units of water. */
  private static final String DRY_LAND = "set(1,10)=60 setWell(0,false)=0 ";

  /** Loads in three zones and in the bag; each part of the state is other than at first. */
  private static final String RICH = "set(0,4)=3 set(1,70)=60 set(2,2)=3 setWell(2,true)=2 setKind(3,1)=0 <w1;w1;w2;w3;t3;g1;w4;w5;s>=9"
    + " <g1;w4;w6;t4;g1;s;r;w1;g1>=9 ";

  private static String times(int n, String calls) { return calls.repeat(n); }

  /** A call that must be recorded: its undo brings back the state of before, and the number of states of before. */
  private static String act(String setup, String call) {
    return times(4, "dusk() ") + setup + " remember " + call + " count(12)=4 undo()=3 same";
  }

  /** A call with each number around two bounds, as the last of its arguments or the only one. */
  private static String outside(String call, int least, int most, String error) {
    StringBuilder all = new StringBuilder();
    for (String number : new String[] {"" + (least - 1), "" + (most + 1), "MIN", "MAX", "-1", "1000"}) {
      all.append(call.replace("#", number)).append('=').append(error).append(' ');
    }
    return all.toString();
  }

  public static void main(String[] args) throws IOException {
    newObject();
    lay();
    setKind();
    setWell();
    set();
    go();
    write();
    take();
    put();
    drop();
    reset();
    seal();
    clean();
    dusk();
    type();
    clearText();
    perform();
    undo();
    keep();
    restore();
    zone();
    slot();
    load();
    scan();
    caravan();
    bagAt();
    waterTo();
    worst();
    nearestFor();
    count();
    s.end();
  }

  private static void newObject() {
    s.test("Promise 1", "Creates 4 zones of 6 slots.",
      "count(0)=4 count(1)=6 count(2)=0 count(3)=0 count(4)=24 count(5)=0 count(6)=0 count(7)=3 count(8)=0 count(9)=0 count(10)=1"
      + " count(11)=0 count(12)=0 count(13)=0",
      "zone(3,0)=0 zone(4,0)=UNKNOWN slot(3,5,0)=NONE slot(3,6,0)=UNKNOWN",
      "caravan(0)=0 caravan(1)=60 caravan(2)=60 caravan(3)=0 caravan(4)=3 caravan(5)=0 caravan(6)=0 undo()=NONE restore()=NONE",
      freshZones(4, 6));
  }

  /** Zones as they are when they are laid, with the caravan at the zone 0. */
  private static String freshZones(int zones, int slots) {
    StringBuilder all = new StringBuilder();
    for (int z = 0; z < zones; z++) {
      int[] tells = {0, 0, 0, 0, 0, z == 0 ? 1 : 0, 0, z};
      for (int what = 0; what < 8; what++) { all.append("zone(" + z + "," + what + ")=" + tells[what] + " "); }
    }
    return all + "slot(0,0,0)=NONE slot(" + (zones - 1) + "," + (slots - 1) + ",0)=NONE caravan(0)=0 count(4)=" + zones * slots
      + " count(5)=0 count(10)=1 ";
  }

  private static void lay() {
    String before = "setKind(0,1)=0 setKind(3,2)=0 setWell(0,false)=0 setWell(3,true)=1 <g1;w1;w2;d1;t2;s;g2;s;r;s;w3>=NOT_POSSIBLE"
      + " <g1;w1;w2;d1;t2;s;g2;s;r;s>=10 ";
    s.test("Promise 2", "Lays other zones: nothing is written in them, they are of the kind 0, only the zone 0 has a well, and no zone was ever"
      + " reset; the caravan is at the zone 0.",
      before + "lay(4,6)=24 " + freshZones(4, 6),
      before + "lay(2,2)=4 " + freshZones(2, 2),
      before + "lay(8,12)=96 " + freshZones(8, 12),
      "lay(8,12)=96 <g7;s;r;w1;d1;s>=6 setKind(7,1)=0 setWell(7,true)=2 lay(2,2)=4 lay(8,12)=96 " + freshZones(8, 12),
      "lay(2,12)=24 " + times(12, "write(3) ") + "take(3) lay(8,2)=16 " + freshZones(8, 2) + "scan(3)=NONE put(3)=0 slot(0,1,0)=NONE");
    s.test("Promise 2", "Its bag, skin and water (it does not come to a well by that), and the heats, the bound and the next mark stay.",
      "set(0,5)=3 set(1,80)=60 set(2,2)=3 <w1;w2;w3;w1;t2;t3;t1;d3;g3>=9 caravan(1)=53 lay(3,3)=9 caravan(0)=0 caravan(1)=53 caravan(2)=80"
      + " caravan(3)=2 caravan(4)=5 bagAt(0)=2 bagAt(1)=1 bagAt(2)=NONE load(2,0)=2 load(2,4)=1 load(1,4)=2 load(1,5)=1 load(3,4)=0"
      + " count(6)=1 count(7)=2 count(8)=4 put(1)=0 slot(0,0,1)=4",
      "go(3)=3 lay(4,6)=24 caravan(0)=0 caravan(1)=57",
      "<w1;d1>=2 lay(2,2)=4 caravan(1)=59",
      "set(1,200)=60 lay(2,2)=4 caravan(1)=60 caravan(2)=200",
      DRY_LAND + "go(10)=2 lay(2,2)=4 caravan(1)=0 go(1)=DRY");
    s.test("Promise 2", ACT, act("", "lay(2,2)=4"), act("", "lay(4,6)=24"),
      act("setKind(1,2) setWell(0,false) setWell(3,true) <w1;w2;t1;g3;s;r>=6 drop(2)=1", "lay(8,12)=96"),
      "lay(2,2)=4 count(12)=1 lay(2,2)=4 count(12)=2");
    s.test("Promise 2", "- `zones`: 2 to 8", outside("lay(#,6)", 2, 8, "BAD_VALUE") + "lay(0,6)=BAD_VALUE lay(2,6)=12 lay(8,6)=48");
    s.test("Promise 2", "- `slots`: 2 to 12", outside("lay(4,#)", 2, 12, "BAD_VALUE") + "lay(4,0)=BAD_VALUE lay(4,2)=8 lay(4,12)=48");
    s.test("Promise 2", "Returns how many slots there are together; BAD_VALUE; NOT_POSSIBLE if a load lies in a slot.",
      "lay(2,2)=4 lay(3,5)=15 lay(8,12)=96 lay(2,12)=24 lay(8,2)=16 lay(9,2)=BAD_VALUE",
      "write(0) lay(2,2)=NOT_POSSIBLE lay(4,6)=NOT_POSSIBLE lay(1,6)=BAD_VALUE take(0) lay(2,2)=4",
      "go(3) write(39) lay(2,2)=NOT_POSSIBLE drop(39) lay(2,2)=4",
      "lay(8,12)=96 go(7)=7 " + times(12, "write(5) ") + "lay(2,2)=NOT_POSSIBLE drop(5)=1 lay(2,2)=4",
      "<w1;w2;t1>=3 lay(2,2)=NOT_POSSIBLE drop(2)=1 lay(2,2)=4 load(1,0)=2");
  }

  private static void setKind() {
    s.test("Promise 3", "Sets the kind of a zone.",
      "setKind(2,1)=0 zone(2,3)=1 zone(1,3)=0 zone(3,3)=0 setKind(0,2)=0 zone(0,3)=2 setKind(2,0)=1 zone(2,3)=0 zone(0,3)=2",
      "write(1) setKind(0,1)=0 load(1,0)=1 slot(0,0,0)=1 slot(0,0,2)=1 zone(0,4)=0 caravan(0)=0");
    s.test("Promise 3", ACT, act("", "setKind(0,1)=0"), act("setKind(3,1)", "setKind(3,2)=1"), act(RICH, "setKind(3,0)=1"));
    s.test("Promise 3", A_ZONE, outside("setKind(#,1)", 0, 3, "UNKNOWN") + "setKind(0,1)=0 setKind(3,1)=0",
      "lay(2,2)=4 " + outside("setKind(#,1)", 0, 1, "UNKNOWN") + "setKind(1,1)=0",
      "lay(8,2)=16 " + outside("setKind(#,1)", 0, 7, "UNKNOWN") + "setKind(7,1)=0");
    s.test("Promise 3", "- `kind`: 0 to 2", outside("setKind(1,#)", 0, 2, "BAD_VALUE") + "setKind(1,2)=0 setKind(1,0)=2 setKind(1,1)=0");
    s.test("Promise 3", "Returns the previous kind; UNKNOWN; BAD_VALUE; NONE if it is so already.",
      "setKind(1,0)=NONE setKind(1,1)=0 setKind(1,1)=NONE setKind(1,2)=1 setKind(1,2)=NONE setKind(1,1)=2 setKind(1,0)=1 setKind(1,0)=NONE",
      "setKind(4,0)=UNKNOWN setKind(4,3)=UNKNOWN setKind(-1,-1)=UNKNOWN setKind(0,3)=BAD_VALUE");
  }

  private static void setWell() {
    s.test("Promise 4", "Lets a zone have a well, or not; at a new well where the caravan is, its skin becomes full.",
      "setWell(2,true)=2 zone(2,5)=1 zone(1,5)=0 zone(3,5)=0 setWell(2,false)=1 zone(2,5)=0 zone(0,5)=1",
      "go(2) caravan(1)=58 setWell(2,true)=2 caravan(1)=60 caravan(6)=2",
      "go(2) setWell(3,true)=2 caravan(1)=58 setWell(0,false)=1 caravan(1)=58",
      "write(1) setWell(0,true)=NONE caravan(1)=59 setWell(0,false)=0 caravan(1)=59 setWell(0,true)=1 caravan(1)=60",
      "set(1,200)=60 setWell(0,false)=0 caravan(1)=60 setWell(0,true)=1 caravan(1)=200",
      "go(2) setWell(2,true)=2 write(1) setWell(2,false)=1 caravan(1)=59",
      DRY_LAND + "go(10)=2 caravan(1)=0 setWell(2,true)=1 caravan(1)=10",
      "setWell(1,true)=2 go(2)=2 caravan(1)=59", "setWell(0,false)=0 go(4)=0 caravan(1)=56");
    s.test("Promise 4", ACT, act("go(2)", "setWell(2,true)=2"), act("", "setWell(0,false)=0"), act("go(2)", "setWell(3,true)=2"),
      act(RICH, "setWell(2,false)=1"));
    s.test("Promise 4", A_ZONE, outside("setWell(#,true)", 0, 3, "UNKNOWN") + "setWell(3,true)=2 setWell(0,false)=1",
      "lay(2,2)=4 " + outside("setWell(#,true)", 0, 1, "UNKNOWN") + "setWell(1,true)=2",
      "lay(8,2)=16 " + outside("setWell(#,true)", 0, 7, "UNKNOWN") + "setWell(7,true)=2");
    s.test("Promise 4", "- `is`: whether it has one then", "setWell(1,true)=2 zone(1,5)=1 setWell(1,false)=1 zone(1,5)=0");
    s.test("Promise 4", "Returns how many wells there are then; UNKNOWN; NONE if it is so already.",
      "setWell(1,true)=2 setWell(2,true)=3 setWell(3,true)=4 setWell(3,true)=NONE setWell(0,false)=3 setWell(1,false)=2 setWell(2,false)=1"
      + " setWell(3,false)=0 setWell(3,false)=NONE setWell(0,true)=1",
      "setWell(0,true)=NONE setWell(1,false)=NONE setWell(4,true)=UNKNOWN setWell(4,false)=UNKNOWN setWell(-1,false)=UNKNOWN");
  }

  private static void set() {
    s.test("Promise 5", "Sets a setting.",
      "set(0,1)=3 caravan(4)=1 caravan(2)=60 count(7)=3 set(1,99)=60 caravan(2)=99 caravan(4)=1 count(7)=3 set(2,9)=3 count(7)=9"
      + " caravan(4)=1 caravan(2)=99",
      "set(0,1)=3 <w1;w2;t1>=3 take(2)=FULL", "set(2,1)=3 write(1) load(1,5)=1");
    s.test("Promise 5", "Where the skin becomes smaller than the water, the water that does not fit is lost.",
      "set(1,59)=60 caravan(1)=59 caravan(6)=0", "set(1,10)=60 caravan(1)=10 set(1,60)=10 caravan(1)=10 set(1,11)=60 caravan(1)=10",
      "go(1) set(1,59)=60 caravan(1)=59", "go(2) set(1,59)=60 caravan(1)=58", "go(2) set(1,57)=60 caravan(1)=57 caravan(6)=2",
      "set(1,61)=60 caravan(1)=60", "set(1,200)=60 caravan(1)=60 go(4)=0 caravan(1)=200 set(1,199)=200 caravan(1)=199");
    s.test("Promise 5", ACT, act("", "set(0,6)=3"), act("", "set(1,10)=60"), act("go(1)", "set(1,200)=60"), act("<w1>=1", "set(2,1)=3"),
      act(RICH, "set(1,12)=70"));
    s.test("Promise 5", "- `what`: 0 for the loads that fit into the bag (0 to 6), 1 for the water that fits into the skin (10 to 200), 2 for the"
      + " bound of heat (1 to 9)",
      outside("set(#,3)", 0, 2, "BAD_VALUE") + outside("set(#,60)", 0, 2, "BAD_VALUE"),
      "set(0,0)=3 caravan(4)=0 set(0,6)=0 caravan(4)=6", "set(1,10)=60 caravan(2)=10 set(1,200)=10 caravan(2)=200",
      "set(2,1)=3 count(7)=1 set(2,9)=1 count(7)=9");
    s.test("Promise 5", "- `value`: the value, in its range",
      outside("set(0,#)", 0, 6, "BAD_VALUE") + outside("set(1,#)", 10, 200, "BAD_VALUE") + outside("set(2,#)", 1, 9, "BAD_VALUE"),
      "set(1,6)=BAD_VALUE set(1,0)=BAD_VALUE set(2,0)=BAD_VALUE set(2,60)=BAD_VALUE set(0,9)=BAD_VALUE set(0,60)=BAD_VALUE");
    s.test("Promise 5", "Returns the previous one; BAD_VALUE; NOT_POSSIBLE if more loads are in the bag; NONE if it is so already.",
      "set(0,3)=NONE set(1,60)=NONE set(2,3)=NONE set(0,6)=3 set(0,6)=NONE set(0,0)=6 set(0,0)=NONE set(1,10)=60 set(1,10)=NONE"
      + " set(1,200)=10 set(2,9)=3 set(2,9)=NONE set(2,1)=9",
      "<w1;w2;t1;t2>=4 set(0,1)=NOT_POSSIBLE set(0,0)=NOT_POSSIBLE set(0,2)=3 set(0,2)=NONE set(0,1)=NOT_POSSIBLE drop(1) set(0,1)=2"
      + " set(0,0)=NOT_POSSIBLE set(0,-1)=BAD_VALUE set(1,10)=60 set(2,1)=3 put(2) set(0,0)=1",
      "set(0,6)=3 <w1;w2;w3;w4;w5;w6;t1;t2;t3;t4;t5;t6>=12 set(0,5)=NOT_POSSIBLE set(0,6)=NONE set(2,5)=3 set(0,7)=BAD_VALUE");
  }

  private static void go() {
    s.test("Promise 6", "Lets the caravan go ahead.",
      "go(1)=1 caravan(0)=1 go(2)=3 go(1)=0 caravan(5)=4 caravan(6)=4", "lay(3,2)=6 go(2)=2 go(2)=1 go(2)=0 caravan(5)=6");
    s.test("Promise 6", ACT, act("", "go(1)=1"), act("", "go(4)=0"), act("", "go(24)=0"), act(RICH, "go(7)=3"));
    s.test("Promise 6", "- `steps`: 1 to 24", outside("go(#)", 1, 24, "BAD_VALUE") + "go(1)=1 go(24)=1 caravan(5)=25");
    s.test("Promise 6", "Returns the zone where it is then; BAD_VALUE; DRY if it has no water for one of the steps.",
      DRY_LAND + "go(11)=DRY go(10)=2 caravan(1)=0 go(1)=DRY go(0)=BAD_VALUE go(25)=BAD_VALUE",
      "lay(8,2)=16 set(1,10)=60 go(7)=7 caravan(1)=3 go(3)=2 caravan(1)=8",
      DRY_LAND + "go(8)=0 caravan(1)=2 setWell(2,true)=1 go(24)=0 caravan(1)=8",
      DRY_LAND + "go(9)=1 setWell(3,true)=1 go(2)=DRY go(1)=2 go(1)=DRY",
      DRY_LAND + "lay(2,2)=4 set(1,11)=10 setWell(0,false)=0 go(10)=0 go(24)=DRY");
  }

  private static void write() {
    s.test("Promise 7", "Writes a load where the caravan is; before that its heat becomes greater by 1.",
      "go(2) write(5)=0 slot(2,0,0)=5 load(5,1)=2 load(5,4)=1 write(5)=1 load(5,4)=2 load(6,4)=0 caravan(0)=2",
      "set(2,1)=3 setKind(0,1)=0 write(1)=0 setKind(0,2)=1 write(2)=NOT_POSSIBLE load(2,4)=0",
      "set(2,2)=3 setKind(0,2)=0 write(1)=0 write(1)=NOT_POSSIBLE load(1,4)=1 setKind(0,1)=2 write(1)=1 load(1,4)=2",
      "write(1) drop(1) load(1,4)=0 write(1)=1 load(1,4)=1",
      "lay(2,12)=24 " + times(12, "write(1) ") + "go(1) " + times(12, "write(1) ") + "go(1) "
      + times(6, "reset()=12 " + times(12, "write(1) ") + "go(1) ") + "reset()=12 write(1)=0 write(1)=1 load(1,4)=98"
      + " write(1)=2 load(1,4)=99 write(1)=3 load(1,4)=99 slot(0,3,0)=1 slot(0,3,2)=1");
    s.test("Promise 7", ACT, act("", "write(0)=0"), act("<w1>=1", "write(1)=1"), act(RICH, "write(6)=4"),
      act("lay(2,2)=4 write(1)", "write(2)=1"));
    s.test("Promise 7", A_LOAD, outside("write(#)", 0, 39, "UNKNOWN") + "write(0)=0 write(39)=1");
    s.test("Promise 7", "Returns the slot; UNKNOWN; NOT_POSSIBLE if it is in the bag, or may not be written here with that heat; DRY.",
      "write(1)=0 write(1)=1 write(2)=2 write(3)=3 write(4)=4 write(5)=5 write(6)=NOT_POSSIBLE write(1)=NOT_POSSIBLE go(1) write(1)=0",
      "write(1) take(1) write(1)=NOT_POSSIBLE load(1,4)=1 write(40)=UNKNOWN write(-1)=UNKNOWN",
      "setKind(0,1)=0 write(1)=NOT_POSSIBLE load(1,4)=0", "seal()=6 write(1)=NOT_POSSIBLE write(40)=UNKNOWN load(1,4)=0",
      DRY_LAND + "go(9)=1 write(1)=0 write(1)=DRY load(1,4)=1 write(2)=DRY take(1) write(1)=NOT_POSSIBLE write(40)=UNKNOWN seal()"
      + " write(2)=NOT_POSSIBLE");
  }

  private static void take() {
    s.test("Promise 8", "Takes a load that lies in a slot of the zone where the caravan is into the bag, as the last one; its slot is dead then.",
      "<w1;w2;w3>=3 take(2)=1 slot(0,1,2)=0 slot(0,1,0)=2 slot(0,1,1)=1 slot(0,0,2)=1 slot(0,2,2)=1 load(2,0)=2 load(2,1)=NONE bagAt(0)=2"
      + " take(1)=2 bagAt(0)=2 bagAt(1)=1 take(3)=3 bagAt(2)=3 zone(0,1)=0 zone(0,2)=3",
      "<w1;w1;w1>=3 take(1)=1 load(1,4)=3 caravan(1)=57 count(11)=0 zone(0,0)=3",
      "<w1;s>=2 take(1)=1 zone(0,4)=1");
    s.test("Promise 8", ACT, act("<w1;w2>=2", "take(1)=1"), act(RICH, "take(2)=3"));
    s.test("Promise 8", A_LOAD, outside("take(#)", 0, 39, "UNKNOWN") + "<w0;w39>=2 take(39)=1 take(0)=2 bagAt(0)=39 bagAt(1)=0");
    s.test("Promise 8", "Returns how many loads are in the bag then; UNKNOWN; NOT_POSSIBLE if it does not lie in this zone; FULL if the bag is full.",
      "lay(2,12)=24 set(0,6)=3 <w1;w2;w3;w4;w5;w6;w7>=7 take(1)=1 take(2)=2 take(3)=3 take(4)=4 take(5)=5 take(6)=6 take(7)=FULL"
      + " take(8)=NOT_POSSIBLE take(1)=NOT_POSSIBLE take(40)=UNKNOWN drop(1) take(7)=6",
      "set(0,0)=3 write(1) take(1)=FULL take(2)=NOT_POSSIBLE take(40)=UNKNOWN",
      "<w1;w2;w3;w4>=4 take(1)=1 take(2)=2 take(3)=3 take(4)=FULL set(0,4)=3 take(4)=4",
      "take(1)=NOT_POSSIBLE write(1) go(1) take(1)=NOT_POSSIBLE write(1) go(3) take(1)=NOT_POSSIBLE go(1) take(1)=1 take(1)=NOT_POSSIBLE",
      "<w1;d1>=2 take(1)=NOT_POSSIBLE", "<w1;t1;g1;p1;g3>=5 take(1)=NOT_POSSIBLE",
      "lay(8,2)=16 <g7;w1;w1>=3 take(1)=1", "lay(2,12)=24 " + times(12, "write(1) ") + "take(1)=1");
  }

  private static void put() {
    s.test("Promise 9", "Puts down a load that is in the bag: it is written where the caravan is.",
      "<w1;w2;t1;t2;g1>=5 put(1)=0 slot(1,0,0)=1 slot(1,0,1)=2 slot(1,0,2)=1 load(1,0)=1 load(1,1)=1 load(1,4)=1 bagAt(0)=2 bagAt(1)=NONE"
      + " zone(1,0)=1 count(8)=3 count(11)=1 caravan(1)=56 slot(0,0,2)=0 put(2)=1 caravan(3)=0 bagAt(0)=NONE",
      "<w1;w2;w3;t1;t2;t3>=6 put(2)=3 bagAt(0)=1 bagAt(1)=3 bagAt(2)=NONE load(3,6)=1 put(1)=4 bagAt(0)=3 put(3)=5 zone(0,4)=1 count(11)=3",
      "lay(2,2)=4 <w1;t1>=2 put(1)=1 zone(0,4)=1");
    s.test("Promise 9", ACT, act("<w1;t1>=2", "put(1)=1"), act("lay(2,2)=4 <w1;w2;t1;t2;g1;p1>=6", "put(2)=1"), act(RICH, "put(3)=4"));
    s.test("Promise 9", A_LOAD, outside("put(#)", 0, 39, "UNKNOWN") + "<w0;w39;t0;t39>=4 put(0)=2 put(39)=3");
    s.test("Promise 9", "Returns the slot; UNKNOWN; NOT_POSSIBLE if it is not in the bag, or may not be written here; DRY.",
      "put(1)=NOT_POSSIBLE write(1) put(1)=NOT_POSSIBLE take(1) put(1)=1 put(1)=NOT_POSSIBLE put(40)=UNKNOWN",
      "<w1;w2;t1;t2;d1>=5 put(1)=NOT_POSSIBLE put(2)=2",
      "<w1;t1>=2 seal() put(1)=NOT_POSSIBLE go(1) setKind(1,1)=0 put(1)=NOT_POSSIBLE set(2,1)=3 put(1)=0",
      "set(2,2)=3 <w1;w1;t1;g1>=4 setKind(1,2)=0 put(1)=NOT_POSSIBLE setKind(1,1)=2 put(1)=0",
      "set(2,2)=3 <w1;t1;g1>=3 setKind(1,1)=0 put(1)=NOT_POSSIBLE load(1,4)=1",
      DRY_LAND + "<w1;t1;g9>=3 put(1)=DRY put(2)=NOT_POSSIBLE put(40)=UNKNOWN setKind(1,1)=0 put(1)=NOT_POSSIBLE",
      DRY_LAND + "<w1;t1;g8>=3 put(1)=1 caravan(1)=0");
  }

  private static void drop() {
    s.test("Promise 10", "Gives up a load: it lies nowhere then, and its heat is 0.",
      "<w1;w1;w2>=3 drop(1)=1 load(1,0)=0 load(1,1)=NONE load(1,2)=NONE load(1,3)=NONE load(1,4)=0 load(1,5)=0 slot(0,1,2)=0 slot(0,1,0)=1"
      + " load(2,0)=1 load(2,4)=1 zone(0,0)=3 zone(0,1)=1 zone(0,2)=2",
      "<w1;w2;w3;t1;t2;t3>=6 drop(2)=2 load(2,0)=0 load(2,4)=0 load(2,6)=NONE bagAt(0)=1 bagAt(1)=3 bagAt(2)=NONE caravan(3)=2 load(1,4)=1",
      "<w1;w2;w3;t1;t2;t3>=6 drop(1)=2 bagAt(0)=2 bagAt(1)=3 bagAt(2)=NONE", "<w1;w2;w3;t1;t2;t3>=6 drop(3)=2 bagAt(1)=2 bagAt(2)=NONE",
      "<w1;g2>=2 drop(1)=1 zone(0,2)=1 caravan(0)=2 caravan(1)=57", "set(2,1)=3 write(1) count(6)=1 drop(1)=1 count(6)=0");
    s.test("Promise 10", ACT, act("<w1>=1", "drop(1)=1"), act("<w1;t1>=2", "drop(1)=2"), act(RICH, "drop(4)=2"), act(RICH, "drop(6)=1"));
    s.test("Promise 10", A_LOAD, outside("drop(#)", 0, 39, "UNKNOWN") + "<w0;w39>=2 drop(0)=1 drop(39)=1");
    s.test("Promise 10", "Returns 1 if it lay in a slot, 2 if it was in the bag; UNKNOWN; NONE if it lay nowhere.",
      "drop(0)=NONE drop(39)=NONE write(0) drop(0)=1 drop(0)=NONE write(0) take(0) drop(0)=2 drop(0)=NONE drop(40)=UNKNOWN drop(-1)=UNKNOWN");
  }

  private static void reset() {
    s.test("Promise 11", "Resets the zone where the caravan is: its pointer is 0, and it is not sealed.",
      "<w1;w2;d1;d2>=4 reset()=2 zone(0,0)=0 zone(0,2)=0 slot(0,0,0)=NONE zone(0,6)=1 count(9)=1 caravan(1)=55 scan(1)=NONE count(8)=2",
      "lay(2,2)=4 <w1;w2;d1;d2>=4 zone(0,4)=1 reset()=2 zone(0,4)=0 write(3)=0 slot(0,0,0)=3 slot(0,1,0)=NONE",
      "<g2;s>=2 reset()=0 zone(2,4)=0 zone(2,6)=1 zone(0,6)=0 zone(1,6)=0 caravan(0)=2",
      "setKind(0,2)=0 setWell(0,false)=0 <w1;d1>=2 reset()=1 zone(0,3)=2 zone(0,5)=0 caravan(1)=56",
      "<w1;w2;g1;w1;w2;g3>=6 reset()=2 zone(1,0)=2 zone(1,1)=2 load(1,1)=1");
    s.test("Promise 11", ACT, act("<w1;d1>=2", "reset()=1"), act("seal()", "reset()=0"),
      act("lay(2,2)=4 <w1;w2;d1;d2>=4", "reset()=2"));
    s.test("Promise 11", "Returns how many slots were written; NOT_POSSIBLE if a slot of it is live; DRY; NONE if its pointer is 0 and it is not sealed.",
      "reset()=NONE seal() reset()=0 reset()=NONE", "<w1;d1>=2 reset()=1 reset()=NONE",
      "lay(2,12)=24 " + times(12, "write(1) ") + "reset()=NOT_POSSIBLE drop(1) reset()=12",
      "<w1;w2;d2>=3 reset()=NOT_POSSIBLE", "<w1;w2;d1>=3 reset()=NOT_POSSIBLE take(2) reset()=2",
      "<w1;w1;g1;w1;g3>=5 reset()=2",
      DRY_LAND + "<w1;g8>=2 caravan(1)=1 reset()=NOT_POSSIBLE drop(1)=1 reset()=DRY",
      DRY_LAND + "<g8;s>=2 caravan(1)=2 reset()=DRY", DRY_LAND + "<g7;s>=2 caravan(1)=3 reset()=0 caravan(1)=0 reset()=DRY",
      DRY_LAND + "go(7) reset()=NONE go(1) reset()=DRY go(2) reset()=DRY");
  }

  private static void seal() {
    s.test("Promise 12", "Seals the zone where the caravan is.",
      "seal()=6 zone(0,4)=1 zone(1,4)=0 write(1)=NOT_POSSIBLE caravan(1)=60", "<g2;w1>=2 seal()=5 zone(2,4)=1 zone(0,4)=0 zone(2,0)=1 load(1,0)=1"
      + " slot(2,0,2)=1 count(4)=23 count(5)=1");
    s.test("Promise 12", ACT, act("", "seal()=6"), act("<g1;w1>=2", "seal()=5"), act(RICH, "seal()=2"));
    s.test("Promise 12", "Returns how many of its slots are free; NONE if it is sealed already.",
      "seal()=6 seal()=NONE reset()=0 seal()=6", "<w1;w1;w1;w1;w1>=5 seal()=1 seal()=NONE", "<w1;w1;w1;w1;w1;w1>=6 seal()=NONE",
      "lay(2,12)=24 seal()=12 go(1) write(1) seal()=11", "lay(2,2)=4 write(1) seal()=1");
  }

  private static void clean() {
    s.test("Promise 13", "Cleans the zone where the caravan is.",
      "<w1;w2;w1;g1;w3;g3>=6 clean()=1 zone(0,0)=0 zone(0,6)=1 slot(1,0,0)=3 slot(1,1,0)=2 slot(1,2,0)=1 caravan(0)=1 zone(1,6)=0",
      "<g1;w1>=2 clean()=1 caravan(0)=2 load(1,1)=2 zone(0,6)=0 zone(1,6)=1 zone(1,0)=0",
      "<g3;w1>=2 clean()=1 caravan(0)=0 load(1,1)=0 caravan(1)=59 count(11)=1 caravan(5)=4");
    s.test("Promise 13", ACT, act("<w1;w2>=2", "clean()=1"), act("<w1;d1>=2", "clean()=0"), act(RICH, "clean()=2"),
      "<w1;w2;w3>=3 clean()=1 count(12)=2");
    s.test("Promise 13", "Returns how many steps the caravan went; NONE if its pointer is 0; FULL if its live loads do not all fit into the bag; DRY if"
      + " it has no water for any part of it; NOT_POSSIBLE if not all loads that it took can be put down.",
      "<w1;d1>=2 clean()=0 clean()=NONE", "write(1) clean()=1", "<g1;s;g3;w1>=4 clean()=2", "<g1;s;g1;s;g2;w1>=6 clean()=3",
      "<g1;s;g1;s;g1;s;g1;w1>=8 clean()=4",
      "clean()=NONE seal() clean()=NONE", DRY_LAND + "go(10) clean()=NONE", "<w1;t1;g1>=3 set(0,1)=3 clean()=NONE",
      "<w1;w2;w3>=3 clean()=1", "<w1;w2;w3;w4>=4 clean()=FULL drop(1) clean()=1", "set(0,0)=3 write(1) clean()=FULL drop(1) clean()=0",
      "<w1;w2;w3;w4;t1>=5 clean()=FULL set(0,4)=3 clean()=1", "lay(2,12)=24 set(0,6)=3 <w1;w2;w3;w4;w5;w6;w7>=7 clean()=FULL drop(4) clean()=1",
      // no water for the reset, for a step, for what is put down
      DRY_LAND + "<g7;w1;d1>=3 caravan(1)=2 clean()=DRY",
      DRY_LAND + "<g6;w1;d1>=3 caravan(1)=3 clean()=0 caravan(1)=0", DRY_LAND + "<g6;w1>=2 caravan(1)=3 clean()=DRY",
      DRY_LAND + "<g5;w1>=2 caravan(1)=4 clean()=DRY", DRY_LAND + "<g4;w1>=2 caravan(1)=5 clean()=1 caravan(1)=0",
      "lay(2,2)=4 " + DRY_LAND + "<g1;s;g3;w1>=4 caravan(1)=5 clean()=DRY", DRY_LAND + "set(0,0)=3 <w1;g8>=2 caravan(1)=1 clean()=FULL",
      DRY_LAND + "<g3;w1;w2>=3 caravan(1)=5 clean()=DRY", DRY_LAND + "<g2;w1;w2>=3 caravan(1)=6 clean()=1 caravan(1)=0",
      DRY_LAND + "<g3;w1>=2 caravan(1)=6 setKind(0,1)=0 clean()=2 caravan(1)=0",
      DRY_LAND + "<g4;w1>=2 caravan(1)=5 setKind(1,1)=0 clean()=DRY",
      // a well on the way
      DRY_LAND + "<g5;w1>=2 caravan(1)=4 setWell(2,true)=1 clean()=1 caravan(1)=9",
      DRY_LAND + "<g6;w1>=2 caravan(1)=3 setWell(3,true)=1 clean()=DRY",
      // not all can be put down
      "write(1) setKind(0,1) setKind(1,1) setKind(2,1) setKind(3,1) clean()=NOT_POSSIBLE setKind(0,0) clean()=4",
      "set(2,2)=3 <w1;w2;w2>=3 setKind(0,1) setKind(1,1) setKind(2,1) setKind(3,1) clean()=NOT_POSSIBLE setKind(3,2) clean()=3 load(2,1)=1",
      "lay(2,2)=4 <g1;s;g1;w1>=4 setKind(0,1)=0 clean()=NOT_POSSIBLE",
      "lay(2,2)=4 <g1;w9;g1;w1;w2>=5 clean()=2 slot(1,1,0)=1 slot(0,0,0)=2 caravan(0)=0",
      "set(0,0)=3 write(1) setKind(0,1) setKind(1,1) setKind(2,1) setKind(3,1) clean()=FULL",
      DRY_LAND + "<g3;w1>=2 caravan(1)=6 setKind(0,1) setKind(1,1) setKind(2,1) setKind(3,1) clean()=DRY",
      DRY_LAND + "<g2;w1>=2 caravan(1)=7 setKind(0,1) setKind(1,1) setKind(2,1) setKind(3,1) clean()=NOT_POSSIBLE");
  }

  private static void dusk() {
    s.test("Promise 14", "Lets the day end: the heat of each load is halved (rounded down).",
      "<w0;w1;w1;w39;w39;w39>=6 dusk()=1 load(0,4)=0 load(1,4)=1 load(39,4)=1 load(2,4)=0 dusk()=0 load(1,4)=0 load(39,4)=0",
      "<w1;w1;w1;w1;w1;t1;g1;w2;w2>=9 dusk()=1 load(1,4)=2 load(2,4)=1 load(1,0)=2",
      "<w1;w1>=2 dusk()=0 caravan(1)=58 zone(0,0)=2 load(1,0)=1 count(8)=2",
      "lay(2,12)=24 " + times(12, "write(7) ") + "dusk()=0 load(7,4)=6 dusk()=0 load(7,4)=3 dusk()=1 load(7,4)=1 dusk()=0 load(7,4)=0");
    s.test("Promise 14", ACT, act("", "dusk()=0"), act("<w1;w1;w1>=3", "dusk()=1"), act(RICH, "dusk()=2"));
    s.test("Promise 14", "Returns how many loads were hot, and are not any more.",
      "dusk()=0", "<w1;w1;w1;w2;w2>=5 dusk()=1 dusk()=0", "<w1;w1;w1;w2;w2;w2>=6 dusk()=2 count(6)=0",
      "lay(2,12)=24 <w1;w1;w1;w1;w1;w1;w2;w2;w2;w2;w2>=11 dusk()=1 load(1,5)=1 load(2,5)=0 count(6)=1",
      "set(2,1)=3 <w0;w39>=2 count(6)=2 dusk()=2 count(6)=0", "set(2,1)=3 <w0;w0;w39>=3 dusk()=1 count(6)=1");
  }

  private static void type() {
    s.test("Promise 15", "Types a character behind the text.",
      "type(s)=1 type(;)=2 type(d)=3 type(5)=4 perform()=2 zone(0,4)=1", "type(w)=1 type(5)=2 perform()=1 slot(0,0,0)=5 type(7)=3 perform()=UNKNOWN",
      "type(s)=1 type(#32)=2 perform()=-101");
    s.test("Promise 15", "- `character`: any character",
      "type(#0)=1 type(#65535)=2 type(#255)=3 type(#256)=4 type(#10)=5 type(#55296)=6 count(13)=6 perform()=-100",
      "type(s) type(#371)=2 perform()=-101", "type(d) type(#305)=2 perform()=-101");
    s.test("Promise 15", "Returns the length of the text then; FULL if it has 60 characters.",
      "type(x)=1 type(y)=2 " + times(57, "type(z) ") + "type(z)=60 type(z)=FULL type(#0)=FULL count(13)=60 clearText()=60 type(z)=1",
      times(29, "type(s) type(;) ") + "type(r)=59 type(;)=60 type(s)=FULL perform()=-160");
  }

  private static void clearText() {
    s.test("Promise 16", "Empties the text.",
      "clearText()=0 count(13)=0", "type(s) type(x) clearText()=2 count(13)=0 perform()=-100 type(s)=1 perform()=1",
      times(60, "type(x) ") + "clearText()=60 count(13)=0 type(s)=1 perform()=1 count(12)=1");
    s.test("Promise 16", "Returns the length that it had.",
      "clearText()=0 type(s) clearText()=1 clearText()=0", times(59, "type(s) ") + "clearText()=59", times(60, "type(s) ") + "type(s)=FULL clearText()=60");
  }

  private static void perform() {
    s.test("Promise 17", "Does the orders of the text, which stays, one after the other; all of them, or none.",
      "<w1;w2;t1;g1;p1>=5 count(13)=14 load(1,1)=1 slot(1,0,1)=2 load(2,1)=0 clearText()=14",
      "<g1>=1 perform()=1 perform()=1 perform()=1 caravan(0)=0 caravan(1)=60 count(13)=2",
      "<w1;g1;w2;g1;w40>=UNKNOWN caravan(0)=0 zone(0,0)=0 zone(1,0)=0 count(13)=15",
      "write(1) <d1;w2;s;w3>=NOT_POSSIBLE load(1,0)=1 load(1,4)=1 count(13)=10", "<w1;x>=-103 count(8)=0");
    s.test("Promise 17", "This is one act.", act("", "<s>=1"), act("", "<w1;w2;w3;t1;g1;p1>=6"), act("", "<d1>=1"), act("", "<d1;r;c>=3"),
      "<w1;w2;w3>=3 count(12)=1 <w4>=1 count(12)=2 undo()=1 zone(0,0)=3 undo()=0 zone(0,0)=0 undo()=NONE", "<w1;w2;g25>=BAD_VALUE count(12)=0");
    s.test("Promise 17", "Returns how many there are; -100 minus the fault of the text if it has one (which is an error); otherwise, of the first order"
      + " for which it is so when its turn comes, the error that its method returns (NONE is no error here: the order does nothing then).",
      "<s>=1 <s;s>=2 <s;s;s;s;s;s;s;s;s;s;s;s;s;s;s;s;s;s;s;s;s;s;s;s;s;s;s;s;s;r>=30 zone(0,4)=0 zone(0,6)=1",
      "perform()=-100 <x>=-100 <w>=-101 <w1;w2;x>=-106 " + times(30, "type(s) ") + "perform()=-106",
      times(30, "type(s) type(;) ") + "perform()=-160",
      "<w40;g0>=UNKNOWN <g0;w40>=BAD_VALUE <t1;w40>=NOT_POSSIBLE <w1;t1;w1>=NOT_POSSIBLE <w1;w2;w3;w4;c>=FULL <w1;w2;w3;w4;t1;t2;t3;t4>=FULL",
      DRY_LAND + "<g11>=DRY <g9;w1;w2>=DRY <g8;s;r>=DRY <g7;w1;d1;c>=DRY <g11;x>=-104",
      "<w1;r>=NOT_POSSIBLE <w1;d1;r>=3 <w1;t1;s;p1>=NOT_POSSIBLE",
      "<d1>=1 <d1;d2;r;c>=4 zone(0,6)=0 count(9)=0 <s;s;w1>=NOT_POSSIBLE <s;s;s>=3 zone(0,4)=1",
      // when its turn comes
      "<w1;s;w2>=NOT_POSSIBLE <w1;s;d1;r;w2>=5 slot(0,0,0)=2", "<t5>=NOT_POSSIBLE <w5;t5>=2 <p5;g1;p5>=NOT_POSSIBLE");
  }

  private static void undo() {
    s.test("Promise 18", "Removes and restores the latest state of the history.",
      "remember write(1) undo()=0 same count(12)=0", RICH + "remember lay(2,2)=NOT_POSSIBLE <d1;g2;w7>=3 undo()=3 same",
      "write(1) write(2) write(3) undo()=2 zone(0,0)=2 load(3,0)=0 undo()=1 zone(0,0)=1 undo()=0 zone(0,0)=0",
      "<w1;w2;w3;w1;t1;t2;t3>=7 remember <r;p3;p1;w9;w9;w9>=6 undo()=1 same slot(0,0,0)=1 slot(0,3,1)=3 scan(1)=3",
      RICH + "remember <d1;d2;d5;d6;r>=5 lay(8,12)=96 undo()=3 undo()=2 same",
      "write(1) remember keep() write(2) restore() undo()=2 undo()=1 same",
      "go(1) go(1) undo()=1 go(2) undo()=1 caravan(0)=1 caravan(5)=1 undo()=0 caravan(0)=0 caravan(5)=0");
    s.test("Promise 18", "Returns the number of states that are left; NONE if the history is empty.",
      "undo()=NONE", "seal() undo()=0 undo()=NONE", "dusk() dusk() dusk() dusk() undo()=3 undo()=2 undo()=1 undo()=0 undo()=NONE undo()=NONE",
      times(5, "dusk() ") + "undo()=3 undo()=2 undo()=1 undo()=0 undo()=NONE", times(23, "dusk() ") + "undo()=3 undo()=2 undo()=1 undo()=0 undo()=NONE",
      "keep() undo()=NONE type(s) undo()=NONE");
  }

  private static void keep() {
    s.test("Promise 19", "Takes a snapshot of the state, in place of the one that was.",
      RICH + "remember keep()=9 <d1;d2;r;w9;g1>=5 dusk() set(0,6) setWell(1,true) setKind(1,2) restore()=9 same",
      "write(1) keep()=1 write(2) keep()=2 remember write(3) restore()=2 same", "keep()=0 write(1) keep()=1 undo()=0 restore()=1 zone(0,0)=1",
      "keep()=0 keep()=0 seal() restore()=0 zone(0,4)=0", "keep() count(12)=0");
    s.test("Promise 19", "Returns the next mark.",
      "keep()=0 write(1) keep()=1 <w1;w2;w3>=3 keep()=4 undo()=1 keep()=1 <d1;r>=2 keep()=1", "<w1;t1;p1;c>=4 keep()=3 drop(1) lay(2,2)=4 keep()=3");
  }

  private static void restore() {
    s.test("Promise 20", "Restores the state of the snapshot, which stays.",
      RICH + "remember keep()=9 <d1;d2;d5;d6;r>=5 lay(8,12)=96 set(1,200)=70 set(2,9)=2 restore()=9 same <d1;d2;r;w9>=4 restore()=9 same",
      "write(1) keep()=1 remember write(2) restore()=1 write(3) slot(0,1,0)=3 take(1) restore()=1 same go(3) restore()=1 same restore()=1 same",
      "keep() write(1) undo()=0 restore()=0 undo()=0");
    s.test("Promise 20", ACT, act("keep()=0 write(1)", "restore()=0"), act("keep()=0", "restore()=0"), act(RICH + "keep()=9 <d1;g2;w7>=3 lay(2,2)=NOT_POSSIBLE", "restore()=9"));
    s.test("Promise 20", "Returns the next mark then; NONE if there is no snapshot.",
      "restore()=NONE write(1) restore()=NONE keep()=1 restore()=1 write(2) restore()=1 count(8)=1", "keep()=0 restore()=0", "write(1) undo()=0 restore()=NONE");
  }

  private static void zone() {
    s.test("Promise 21", A_ZONE, outside("zone(#,0)", 0, 3, "UNKNOWN") + "zone(0,0)=0 zone(3,0)=0",
      "lay(2,2)=4 " + outside("zone(#,7)", 0, 1, "UNKNOWN") + "zone(1,7)=1", "lay(8,2)=16 " + outside("zone(#,7)", 0, 7, "UNKNOWN") + "zone(7,7)=7");
    s.test("Promise 21", "- `what`: 0 for its pointer, 1 for its live slots, 2 for its dead ones, 3 for its kind, 4 for whether it is sealed (1, otherwise"
      + " 0), 5 for whether it has a well (1, otherwise 0), 6 for how often it was reset, 7 for the steps from the caravan to it (0 if the caravan is there)",
      "<g2;s;r;s;r;w1;w2;w1;w3;d3;s;g1>=12 setKind(2,2)=0 setWell(2,true)=2 zone(2,0)=4 zone(2,1)=2 zone(2,2)=2 zone(2,3)=2 zone(2,4)=1 zone(2,5)=1"
      + " zone(2,6)=2 zone(2,7)=3 zone(3,7)=0 zone(0,7)=1 zone(1,7)=2 zone(1,0)=0 zone(1,1)=0 zone(1,2)=0 zone(1,3)=0 zone(1,4)=0 zone(1,5)=0 zone(1,6)=0",
      "lay(2,12)=24 " + times(12, "write(1) ") + "zone(0,0)=12 zone(0,1)=1 zone(0,2)=11 zone(1,0)=0 zone(1,1)=0 go(1) write(20)"
      + " zone(0,1)=1 zone(0,2)=11 zone(1,1)=1 zone(1,2)=0",
      "lay(2,2)=4 <w1;w2>=2 zone(0,1)=2 zone(0,2)=0 take(1) zone(0,1)=1 zone(0,2)=1 drop(2) zone(0,1)=0 zone(0,2)=2 reset()=2 zone(0,2)=0 zone(0,6)=1",
      "lay(8,2)=16 zone(7,7)=7 go(7)=7 zone(7,7)=0 zone(0,7)=1 zone(6,7)=7", "<w1;c>=2 zone(0,6)=1 zone(1,6)=0 zone(1,7)=0 zone(0,7)=3");
    s.test("Promise 21", "Returns the number; UNKNOWN; BAD_VALUE.",
      outside("zone(0,#)", 0, 7, "BAD_VALUE") + "zone(0,0)=0 zone(3,7)=3 zone(4,8)=UNKNOWN zone(-1,-1)=UNKNOWN zone(4,0)=UNKNOWN");
  }

  private static void slot() {
    s.test("Promise 22", A_ZONE, outside("slot(#,0,0)", 0, 3, "UNKNOWN") + "slot(0,0,0)=NONE slot(3,0,0)=NONE go(3) write(5) slot(3,0,0)=5",
      "lay(2,2)=4 " + outside("slot(#,0,0)", 0, 1, "UNKNOWN"), "lay(8,2)=16 " + outside("slot(#,0,0)", 0, 7, "UNKNOWN") + "slot(7,0,0)=NONE");
    s.test("Promise 22", "- `slot`: one of its slots", outside("slot(0,#,0)", 0, 5, "UNKNOWN") + "slot(0,0,0)=NONE slot(0,5,0)=NONE",
      "lay(2,2)=4 " + outside("slot(1,#,0)", 0, 1, "UNKNOWN") + "slot(1,1,0)=NONE",
      "lay(8,12)=96 " + outside("slot(7,#,0)", 0, 11, "UNKNOWN") + "go(7) " + times(12, "write(5) ") + "slot(7,11,0)=5 slot(7,11,2)=1 slot(7,10,2)=0");
    s.test("Promise 22", "- `what`: 0 for its load, 1 for its mark, 2 for whether it is live (1, otherwise 0)",
      "<w7;w8;g1;w7;w9;t9>=6 slot(0,0,0)=7 slot(0,0,1)=0 slot(0,0,2)=0 slot(0,1,0)=8 slot(0,1,1)=1 slot(0,1,2)=1 slot(1,0,0)=7 slot(1,0,1)=2"
      + " slot(1,0,2)=1 slot(1,1,0)=9 slot(1,1,1)=3 slot(1,1,2)=0",
      "write(0) slot(0,0,0)=0 slot(0,0,1)=0 slot(0,0,2)=1 drop(0) slot(0,0,0)=0 slot(0,0,2)=0");
    s.test("Promise 22", "Returns the number; UNKNOWN (zone or slot); BAD_VALUE; NONE if the slot is free.",
      outside("slot(0,0,#)", 0, 2, "BAD_VALUE") + "write(1) " + outside("slot(0,0,#)", 0, 2, "BAD_VALUE") + "slot(0,0,0)=1 slot(0,1,0)=NONE slot(0,1,1)=NONE"
      + " slot(0,1,2)=NONE slot(0,5,2)=NONE slot(0,6,2)=UNKNOWN slot(0,6,3)=UNKNOWN slot(4,0,3)=UNKNOWN slot(4,6,0)=UNKNOWN",
      "<w1;w2;d1;d2;r;w3>=6 slot(0,0,0)=3 slot(0,1,0)=NONE");
  }

  private static void load() {
    s.test("Promise 23", A_LOAD, outside("load(#,0)", 0, 39, "UNKNOWN") + "load(0,0)=0 load(39,0)=0 write(39) load(39,0)=1 load(38,0)=0");
    s.test("Promise 23", "- `what`: 0 for where it is (0 nowhere, 1 in a slot, 2 in the bag), 1 for its zone, 2 for its slot, 3 for the mark of that slot"
      + " (1, 2, 3: NONE if it is in none), 4 for its heat, 5 for whether it is hot (1, otherwise 0), 6 for its place in the bag from 0 (NONE if it is not"
      + " there)",
      "load(0,0)=0 load(0,1)=NONE load(0,2)=NONE load(0,3)=NONE load(0,4)=0 load(0,5)=0 load(0,6)=NONE",
      "<w1;w2;g3;w3;w3;w3>=6 load(1,0)=1 load(1,1)=0 load(1,2)=0 load(1,3)=0 load(1,4)=1 load(1,5)=0 load(1,6)=NONE load(3,0)=1 load(3,1)=3 load(3,2)=2"
      + " load(3,3)=4 load(3,4)=3 load(3,5)=1 load(3,6)=NONE",
      "<w3;w3;w3;w4;t4;t3>=6 load(3,0)=2 load(3,1)=NONE load(3,2)=NONE load(3,3)=NONE load(3,4)=3 load(3,5)=1 load(3,6)=1 load(4,6)=0 put(4) load(3,6)=0"
      + " load(4,6)=NONE load(4,2)=4",
      "<w1;d1>=2 load(1,0)=0 load(1,1)=NONE load(1,2)=NONE load(1,3)=NONE load(1,6)=NONE",
      "lay(8,12)=96 go(7) " + times(12, "write(5) ") + "load(5,1)=7 load(5,2)=11 load(5,3)=11 load(5,4)=12",
      "set(2,1)=3 load(1,5)=0 write(1) load(1,5)=1 set(2,2)=1 load(1,5)=0", "set(0,6)=3 <w1;w2;w3;w4;w5;w6;t6;t5;t4;t3;t2;t1>=12 load(1,6)=5 load(6,6)=0");
    s.test("Promise 23", "Returns the number; UNKNOWN; BAD_VALUE.", outside("load(0,#)", 0, 6, "BAD_VALUE") + "load(40,7)=UNKNOWN load(-1,-1)=UNKNOWN load(0,6)=NONE");
  }

  private static void scan() {
    s.test("Promise 24", "Looks through all slots that are written, live or dead, for a load.",
      "<w1;w2;t1;d2>=4 scan(1)=0 scan(2)=1 drop(1) scan(1)=0", "<w1;d1;r>=3 scan(1)=NONE", "<w1;g1;w1;d1;r>=5 scan(1)=0",
      "lay(8,12)=96 go(7) " + times(12, "write(5) ") + "scan(5)=711", "<w1;d1>=2 lay(2,2)=4 scan(1)=NONE", "<w0>=1 scan(0)=0 scan(1)=NONE");
    s.test("Promise 24", A_LOAD, outside("scan(#)", 0, 39, "UNKNOWN") + "<w0;w39>=2 scan(0)=0 scan(39)=1");
    s.test("Promise 24", "Returns 100 * zone + slot of the one with the greatest mark; UNKNOWN; NONE if there is none.",
      "scan(0)=NONE scan(39)=NONE scan(40)=UNKNOWN write(0)=0 scan(0)=0", "<w1;w1;g3;w2;w1;g1;w1;g3>=8 scan(1)=2 scan(2)=300", "<g3;w1;g1;w1>=4 scan(1)=0 <g1;w1;g3>=3 scan(1)=100",
      "<w1;w1;g1;w1;g1;w2;w2;w1;t1>=9 scan(1)=202 drop(1) scan(1)=202 drop(2) reset()=3 scan(1)=100 scan(2)=NONE");
  }

  private static void caravan() {
    s.test("Promise 25", "- `what`: 0 for the zone where the caravan is, 1 for its water, 2 for the water that fits into the skin, 3 for the loads in the bag,"
      + " 4 for those that fit, 5 for the steps so far, 6 for the water that was used so far",
      "caravan(0)=0 caravan(1)=60 caravan(2)=60 caravan(3)=0 caravan(4)=3 caravan(5)=0 caravan(6)=0",
      "<w1;w2;t1;t2;g1;p1;g2;s;r>=9 set(0,5)=3 set(1,80)=60 caravan(0)=3 caravan(1)=51 caravan(2)=80 caravan(3)=1 caravan(4)=5 caravan(5)=3 caravan(6)=9"
      + " go(1)=0 caravan(0)=0 caravan(1)=80 caravan(5)=4 caravan(6)=10",
      "<w1;c>=2 caravan(5)=1 caravan(6)=6", "<g4;g4;g1>=3 caravan(5)=9 caravan(6)=9 lay(2,2)=4 caravan(5)=9 caravan(6)=9",
      "set(1,20)=60 caravan(6)=0 go(11)=3 caravan(1)=17 caravan(5)=11 undo() caravan(5)=0 caravan(6)=0",
      "set(0,6)=3 <w1;w2;w3;w4;w5;w6;t6;t5;t4;t3;t2;t1>=12 caravan(3)=6 caravan(4)=6 drop(3) caravan(3)=5");
    s.test("Promise 25", "Returns the number; BAD_VALUE.", outside("caravan(#)", 0, 6, "BAD_VALUE") + "caravan(0)=0 caravan(6)=0");
  }

  private static void bagAt() {
    s.test("Promise 26", "- `place`: a place in the bag, from 0",
      "<w1;w2;w3;t2;t3;t1>=6 bagAt(0)=2 bagAt(1)=3 bagAt(2)=1 put(3) bagAt(0)=2 bagAt(1)=1 bagAt(2)=NONE take(3)=3 bagAt(2)=3",
      "set(0,6)=3 <w0;w39;w3;w4;w5;w6;t6;t5;t4;t3;t39;t0>=12 bagAt(0)=6 bagAt(4)=39 bagAt(5)=0");
    s.test("Promise 26", "Returns the load; BAD_VALUE if place is negative; NONE if there are not so many.",
      "bagAt(-1)=BAD_VALUE bagAt(MIN)=BAD_VALUE bagAt(0)=NONE bagAt(1)=NONE bagAt(6)=NONE bagAt(7)=NONE bagAt(MAX)=NONE",
      "<w0;t0>=2 bagAt(0)=0 bagAt(1)=NONE bagAt(-1)=BAD_VALUE drop(0) bagAt(0)=NONE", "<w1;w2;w3;t1;t2;t3>=6 bagAt(2)=3 bagAt(3)=NONE put(3) bagAt(2)=NONE",
      "set(0,6)=3 <w1;w2;w3;w4;w5;w6;t6;t5;t4;t3;t2;t1>=12 bagAt(5)=1 bagAt(6)=NONE bagAt(-1)=BAD_VALUE");
  }

  private static void waterTo() {
    s.test("Promise 27", "Tells the least water that the caravan must have now so that it can go to a zone, with the wells on its way (that where it is now is"
      + " not used).",
      "waterTo(1)=1 waterTo(2)=2 waterTo(3)=3", "setWell(1,true)=2 waterTo(1)=1 waterTo(2)=1 waterTo(3)=1", "setWell(2,true)=2 waterTo(1)=1 waterTo(2)=2 waterTo(3)=2",
      "setWell(3,true)=2 waterTo(3)=3 go(1)=1 waterTo(2)=1 waterTo(3)=2 waterTo(0)=2",
      "go(1) waterTo(2)=1 waterTo(3)=2 waterTo(0)=3 setWell(0,false)=0 waterTo(0)=3", "lay(8,2)=16 waterTo(7)=7 go(7)=7 waterTo(6)=1 waterTo(0)=1",
      "lay(8,2)=16 go(5) waterTo(6)=1 waterTo(7)=2 waterTo(0)=3 waterTo(1)=3 waterTo(4)=3 setWell(5,true)=2 waterTo(4)=3 setWell(7,true)=3 waterTo(4)=2 waterTo(0)=2"
      + " setWell(7,false)=2 setWell(0,false)=1 setWell(2,true)=2 waterTo(0)=3 waterTo(1)=4 waterTo(2)=5 waterTo(3)=5 waterTo(4)=5 setWell(2,false)=1 waterTo(4)=7",
      "lay(8,2)=16 set(1,10)=60 setWell(1,true)=2 waterTo(7)=1", "setWell(0,false)=0 go(5) waterTo(0)=3",
      "lay(2,2)=4 waterTo(1)=1 go(1) waterTo(0)=1",
      // what it must have now is told also where it has less, or more
      DRY_LAND + "go(10)=2 caravan(1)=0 waterTo(1)=3 waterTo(3)=1");
    s.test("Promise 27", A_ZONE, outside("waterTo(#)", 0, 3, "UNKNOWN") + "waterTo(0)=0 waterTo(3)=3", "lay(2,2)=4 " + outside("waterTo(#)", 0, 1, "UNKNOWN"),
      "lay(8,2)=16 " + outside("waterTo(#)", 0, 7, "UNKNOWN") + "waterTo(7)=7");
    s.test("Promise 27", "Returns the water, 0 if it is there; UNKNOWN.",
      "waterTo(0)=0 go(2)=2 waterTo(2)=0 setWell(2,true)=2 waterTo(2)=0 waterTo(4)=UNKNOWN waterTo(-1)=UNKNOWN", DRY_LAND + "go(10)=2 waterTo(2)=0",
      "setWell(0,false) setWell(1,true) waterTo(0)=0", "lay(8,2)=16 go(7)=7 waterTo(7)=0 waterTo(8)=UNKNOWN");
  }

  private static void worst() {
    s.test("Promise 28", "Finds the zone that is best to be cleaned: of those that have a dead slot the one with the fewest live ones; of several the one with the"
      + " most dead ones, then the nearest ahead of the caravan (where it is is the nearest).",
      // a zone without a dead slot is none of them
      "<w1;g1;w2;w2;w3;w4>=6 worst()=1", "<w1;g1;g1;w2;w2;w3;g1>=7 worst()=2", "<g1;w1;w1;w2>=4 worst()=1",
      // the fewest live ones, also with fewer dead ones
      "<w1;w1;w1;w1;w2;g2;w3;w3>=8 zone(0,1)=2 zone(0,2)=3 zone(2,1)=1 zone(2,2)=1 worst()=2", "<w3;w3;g1;w4;d4>=5 worst()=1",
      "<w3;w3;w4;g1;w5;w5;w6;w7>=8 worst()=0",
      // as many live ones: the most dead ones, also farther away
      "<w1;w1;g1;w2;w2;w2;g3>=7 worst()=1", "<w1;w1;w1;g1;w2;w2>=6 worst()=0", "<w1;w1;g1;w2;w2;w2;g1;w3;w3;w3;w3>=11 worst()=2 go(1) worst()=2 go(1) worst()=2",
      // as many of both: the nearest ahead, and where it is is the nearest
      "<w1;w1;g2;w2;w2>=5 worst()=2 go(1)=3 worst()=0 go(1)=0 worst()=0 go(1)=1 worst()=2", "lay(2,2)=4 <w1;d1;g1;w2;d2>=5 worst()=1 go(1) worst()=0",
      "lay(8,2)=16 <w1;d1;g7;w2;d2>=5 worst()=7 go(1) worst()=0 go(1) worst()=7", "<w1;d1;s>=3 worst()=0");
    s.test("Promise 28", "Returns the zone; NONE if there is none.",
      "worst()=NONE write(1) worst()=NONE write(1) worst()=0 drop(1) worst()=0 reset() worst()=NONE", "<g3;w1;t1;g1>=4 worst()=3", "seal() worst()=NONE",
      "lay(2,2)=4 <w1;w2;g1;w3;w4>=5 worst()=NONE take(4) worst()=1");
  }

  private static void nearestFor() {
    s.test("Promise 29", "Finds the nearest zone ahead of the caravan (where it is is the nearest) in which a load may be written, with the heat that it has.",
      "nearestFor(5)=0 go(2) nearestFor(5)=2 seal() nearestFor(5)=3 go(1) seal() nearestFor(5)=0 go(1) seal() nearestFor(5)=1 go(3) nearestFor(5)=1",
      "lay(2,2)=4 <w1;w1>=2 nearestFor(1)=1 nearestFor(2)=1", "set(2,1)=3 setKind(0,1)=0 nearestFor(1)=1 load(1,4)=0",
      "set(2,2)=3 setKind(0,1)=0 setKind(1,1)=0 <g2;w1;w2;w2;g2>=5 nearestFor(1)=2 nearestFor(2)=0 setKind(0,2)=1 nearestFor(1)=0 nearestFor(2)=1"
      + " write(1)=NOT_POSSIBLE nearestFor(1)=0",
      "<w1;t1;g1>=3 nearestFor(1)=1 setKind(1,1)=0 nearestFor(1)=2 set(2,1)=3 nearestFor(1)=1",
      "lay(8,2)=16 " + times(7, "seal() go(1) ") + "go(1)=0 nearestFor(1)=7", DRY_LAND + "go(10)=2 nearestFor(1)=2");
    s.test("Promise 29", A_LOAD, outside("nearestFor(#)", 0, 39, "UNKNOWN") + "nearestFor(0)=0 nearestFor(39)=0");
    s.test("Promise 29", "Returns the zone; UNKNOWN; NONE if there is none.",
      "<s;g1;s;g1;s;g1;s>=7 nearestFor(0)=NONE nearestFor(39)=NONE nearestFor(40)=UNKNOWN reset() nearestFor(0)=3 go(1) nearestFor(0)=3",
      "setKind(0,1) setKind(1,1) setKind(2,1) setKind(3,1) nearestFor(0)=NONE set(2,1) nearestFor(0)=NONE setKind(3,2) nearestFor(0)=3",
      "lay(2,2)=4 <w1;w1;g1;w1;w1>=5 nearestFor(1)=NONE");
  }

  private static void count() {
    s.test("Promise 30", "- `what`: 0 for the number of zones, 1 for the slots of each, 2 for slots that are live, 3 for dead ones, 4 for free ones, 5 for zones that"
      + " are sealed, 6 for loads that are hot, 7 for the bound of heat, 8 for the next mark, 9 for resets so far (of zones that were laid since, too), 10 for"
      + " wells, 11 for loads that were moved by put() and clean() so far, 12 for the states in the history, 13 for the length of the text",
      "lay(5,3)=15 <w1;w1;w1;g1;w2;w3;t3;g1;p3;s>=10 setWell(3,true)=2 set(2,2)=3 count(0)=5 count(1)=3 count(2)=3 count(3)=3 count(4)=9 count(5)=2 count(6)=1"
      + " count(7)=2 count(8)=6 count(9)=0 count(10)=2 count(11)=1 count(12)=4 count(13)=28",
      // of zones that were laid since, too
      "<s;r;g1;s;r>=5 count(9)=2 zone(0,6)=1 lay(2,2)=4 count(9)=2 zone(0,6)=0 <s;r>=2 count(9)=3 undo()=2 count(9)=2", "<w1;c>=2 count(9)=1",
      // by put() and clean(), not by write() and take()
      "<w1;w1;t1>=3 count(11)=0 put(1) count(11)=1 <w2;w3;c>=3 count(11)=4 drop(1) count(11)=4 drop(2) drop(3) lay(2,2)=4 count(11)=4",
      "<w1;t1;d1>=3 count(11)=0", "<w1;d1;r>=3 count(8)=1 count(9)=1 count(3)=0", "<w1;s;g3;w2;w3;d3>=6 clean() count(11)=1",
      "lay(2,2)=4 count(4)=4 write(1) write(1) go(1) write(1) write(1) count(2)=1 count(3)=3 count(4)=0 count(5)=2", "lay(8,12)=96 count(4)=96",
      times(5, "dusk() ") + "count(12)=4 undo() count(12)=3", times(60, "type(x) ") + "count(13)=60", "set(2,1)=3 count(6)=0 <w0;w39>=2 count(6)=2",
      "setWell(1,true) setWell(2,true) setWell(3,true) count(10)=4 setWell(0,false) count(10)=3");
    s.test("Promise 30", "Returns the number; BAD_VALUE.", outside("count(#)", 0, 13, "BAD_VALUE") + "count(0)=4 count(13)=0");
  }
}
