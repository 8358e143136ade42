import java.io.IOException;
import java.util.ArrayList;
import java.util.List;

/** A test for each sentence of 'What it is' and of 'Terms', with the boundary cases that it names. */
public final class TermSentences {
  private static final Sentences s = new Sentences("TermSentences");

  /** No well is left, and there are ten units of water. */
  private static final String DRY_LAND = "set(1,10)=60 setWell(0,false)=0 ";

  /**
   * The caravan is at the zone 0, which has live slots and a dead one; the zone 1 is sealed, the zone 2 has a well,
   * the zone 3 is for hot loads; a load is in the bag, and a snapshot, a text and four states are kept.
   */
  private static final String RICH = "lay(4,5)=20 set(0,4)=3 set(2,2)=3 setWell(2,true)=2 <w1;w1;w2;w3;t3>=5 "
    + "<g1;w4;w5;s;g1;w4>=6 keep()=7 setKind(3,1)=0 <g1;s;r;g1>=4 clearText() type(d) type(2) ";

  public static void main(String[] args) throws IOException {
    whatItIs();
    zones();
    loads();
    theCaravan();
    writing();
    cleaning();
    texts();
    history();
    errors();
    constants();
    s.end();
  }

  private static String times(int n, String calls) { return calls.repeat(n); }

  private static void whatItIs() {
    s.test("What it is", "Zones along a road that goes round, each of which is written behind a pointer by a caravan that goes"
      + " ahead alone: loads that are written anew and leave dead ones behind, live loads that are taken into a bag and put"
      + " down elsewhere, zones that are sealed and reset, hot loads and zones for them, a store of water that wells fill,"
      + " zones that are cleaned in one go or not at all, orders that are read from a text with the places of faults, what"
      + " lies where, ways by water, undo and a snapshot.",
      "keep()=0 write(1)=0 write(1)=1 zone(0,2)=1 setKind(1,1)=0 set(2,2)=3 <t1;g1;p1;s>=4 zone(1,4)=1 <w2;x>=-103"
      + " waterTo(0)=3 go(3)=0 caravan(1)=60 clean()=0 zone(0,6)=1 undo()=3 zone(0,6)=0 restore()=0 count(2)=0");
    s.test("What it is", "An object is used for at most 512 calls after it has been made; what later calls answer is free.",
      "write(1)=0 " + times(510, "count(8)=1 ") + "write(1)=1",
      times(255, "seal()=6 undo()=0 ") + "seal()=6 zone(0,4)=1",
      "lay(2,2) write(1)=0 write(1)=1 go(1) write(1)=0 write(1)=1 go(1) reset()=2 "
      + times(125, "write(1)=0 write(1)=1 go(1) reset()=2 ") + "count(9)=126 count(8)=254 scan(1)=1 load(1,4)=99",
      "lay(2,12) " + times(12, "write(3) ") + "go(1) " + times(12, "write(3) ") + "go(1) "
      + times(34, "reset()=12 " + times(12, "write(3) ") + "go(1) ") + "count(8)=432 load(3,4)=99 scan(3)=111 worst()=0",
      "<w1;t1>=2 " + times(60, "go(24)=0 put(1)=1 undo()=2 go(23)=3 go(1)=0 undo()=3 undo()=2 undo()=1 ") + "caravan(5)=0");
  }

  private static void zones() {
    s.test("ZONES", "There are 2 to 8 zones (at first 4), numbered from 0, with 2 to 12 slots each (at first 6).",
      "count(0)=4 count(1)=6 zone(0,0)=0 zone(3,0)=0 zone(-1,0)=UNKNOWN zone(4,0)=UNKNOWN",
      "slot(0,0,0)=NONE slot(0,5,0)=NONE slot(3,5,0)=NONE slot(0,-1,0)=UNKNOWN slot(0,6,0)=UNKNOWN",
      "lay(2,2)=4 count(0)=2 count(1)=2 zone(1,0)=0 zone(2,0)=UNKNOWN slot(1,1,0)=NONE slot(1,2,0)=UNKNOWN",
      "lay(8,12)=96 count(0)=8 count(1)=12 zone(7,0)=0 zone(8,0)=UNKNOWN slot(7,11,0)=NONE slot(7,12,0)=UNKNOWN",
      "lay(1,6)=BAD_VALUE lay(9,6)=BAD_VALUE lay(4,1)=BAD_VALUE lay(4,13)=BAD_VALUE");
    s.test("ZONES", "Behind the last zone comes the zone 0 again.",
      "go(3)=3 go(1)=0",
      "go(4)=0 go(5)=1 go(24)=1",
      "lay(2,2)=4 go(1)=1 go(1)=0 go(2)=0 go(23)=1",
      "lay(8,2)=16 go(7)=7 go(1)=0 go(8)=0 go(9)=1",
      "go(3)=3 zone(3,7)=0 zone(0,7)=1 zone(1,7)=2 zone(2,7)=3 waterTo(0)=1 waterTo(2)=1",
      "go(3)=3 seal()=6 nearestFor(0)=0",
      "<w1;w1;g3>=3 worst()=0",
      "go(3)=3 write(1)=0 clean()=1 caravan(0)=0 load(1,1)=0");
    s.test("ZONES", "A zone has a pointer (at first 0): the slots below it are written, one after the other, each with a load and"
      + " a mark; the others are free.",
      "zone(0,0)=0 zone(1,0)=0 zone(2,0)=0 zone(3,0)=0 slot(0,0,0)=NONE slot(0,0,1)=NONE slot(0,0,2)=NONE slot(3,5,1)=NONE count(4)=24",
      "write(7)=0 zone(0,0)=1 slot(0,0,0)=7 slot(0,0,1)=0 slot(0,1,0)=NONE slot(0,1,1)=NONE slot(0,1,2)=NONE"
      + " write(8)=1 zone(0,0)=2 slot(0,1,0)=8 slot(0,1,1)=1 slot(0,2,0)=NONE zone(1,0)=0 slot(1,0,0)=NONE count(4)=22",
      "<w1;w2;w3;w4;w5;w6>=6 zone(0,0)=6 slot(0,0,0)=1 slot(0,5,0)=6 slot(0,5,1)=5 slot(1,0,0)=NONE zone(1,0)=0 count(4)=18",
      "write(1) drop(1)=1 zone(0,0)=1 slot(0,0,0)=1 count(4)=23",
      "<w1;w2;d1;d2;r>=5 zone(0,0)=0 slot(0,0,0)=NONE slot(0,1,1)=NONE slot(0,0,2)=NONE scan(1)=NONE count(4)=24");
    s.test("ZONES", "The marks are numbers from 0 on, in the order in which slots were written, in whatever zone.",
      "count(8)=0 write(5)=0 slot(0,0,1)=0 count(8)=1 go(2)=2 write(6)=0 slot(2,0,1)=1 go(2)=0 write(5)=1 slot(0,1,1)=2 count(8)=3",
      "write(5) take(5) count(8)=1 put(5)=1 slot(0,1,1)=1 count(8)=2",
      "<w1;w2;d1;d2;r>=5 count(8)=2 write(3)=0 slot(0,0,1)=2",
      "<w1;w2;c>=3 slot(1,0,1)=2 slot(1,1,1)=3 count(8)=4",
      "<w1;d1>=2 lay(2,2)=4 count(8)=1 write(1)=0 slot(0,0,1)=1",
      "seal()=6 write(1)=NOT_POSSIBLE go(1)=1 write(1)=0 slot(1,0,1)=0",
      "write(1) write(2) undo()=1 count(8)=1 write(3)=1 slot(0,1,1)=1");
    s.test("ZONES", "A zone that is sealed is not written (at first none is); a zone of which the last slot is written becomes sealed by that.",
      "zone(0,4)=0 zone(1,4)=0 zone(2,4)=0 zone(3,4)=0 count(5)=0",
      "<w1;w2;w3;w4;w5>=5 zone(0,4)=0 write(6)=5 zone(0,4)=1 zone(1,4)=0 write(6)=NOT_POSSIBLE write(7)=NOT_POSSIBLE",
      "lay(2,2)=4 write(1)=0 zone(0,4)=0 write(1)=1 zone(0,4)=1 zone(1,4)=0 count(5)=1 write(1)=NOT_POSSIBLE",
      "lay(2,12)=24 " + times(11, "write(1) ") + "zone(0,4)=0 write(1)=11 zone(0,4)=1 write(1)=NOT_POSSIBLE",
      "lay(2,2)=4 <w1;w2;t1;t2;g1;p1>=6 zone(1,4)=0 put(2)=1 zone(1,4)=1",
      "write(1) take(1) seal()=5 put(1)=NOT_POSSIBLE write(2)=NOT_POSSIBLE nearestFor(2)=1",
      "<g1;s;g3;w1;c>=5 load(1,1)=2",
      "lay(2,2)=4 <w1;w2;c>=3 zone(1,4)=1 zone(0,4)=0");
    s.test("ZONES", "A zone is of the kind 0 (for all loads, at first), 1 (for hot ones), or 2 (for those that are not hot).",
      "zone(0,3)=0 zone(1,3)=0 zone(2,3)=0 zone(3,3)=0 write(1)=0 write(1)=1 write(1)=2 load(1,5)=1 write(1)=3 write(2)=4",
      "setKind(0,1)=0 write(1)=NOT_POSSIBLE set(2,2)=3 write(1)=NOT_POSSIBLE set(2,1)=2 write(1)=0",
      "setKind(0,2)=0 write(1)=0 write(1)=1 write(1)=NOT_POSSIBLE load(1,4)=2 write(2)=2",
      "setKind(0,-1)=BAD_VALUE setKind(0,3)=BAD_VALUE");
    s.test("ZONES", "It has a well or not (at first only the zone 0 has one).",
      "zone(0,5)=1 zone(1,5)=0 zone(2,5)=0 zone(3,5)=0 count(10)=1",
      "setWell(0,false)=0 zone(0,5)=0 count(10)=0 setWell(3,true)=1 zone(3,5)=1 zone(2,5)=0 count(10)=1",
      "setWell(1,true)=2 setWell(2,true)=3 setWell(3,true)=4 count(10)=4 setWell(3,true)=NONE");
  }

  private static void loads() {
    s.test("LOADS", "There are the loads 0 to 39.",
      "write(-1)=UNKNOWN take(-1)=UNKNOWN put(-1)=UNKNOWN drop(-1)=UNKNOWN load(-1,0)=UNKNOWN scan(-1)=UNKNOWN nearestFor(-1)=UNKNOWN",
      "write(40)=UNKNOWN take(40)=UNKNOWN put(40)=UNKNOWN drop(40)=UNKNOWN load(40,0)=UNKNOWN scan(40)=UNKNOWN nearestFor(40)=UNKNOWN",
      "write(MIN)=UNKNOWN take(MIN)=UNKNOWN put(MIN)=UNKNOWN drop(MIN)=UNKNOWN load(MIN,0)=UNKNOWN scan(MIN)=UNKNOWN nearestFor(MIN)=UNKNOWN",
      "write(MAX)=UNKNOWN take(MAX)=UNKNOWN put(MAX)=UNKNOWN drop(MAX)=UNKNOWN load(MAX,0)=UNKNOWN scan(MAX)=UNKNOWN nearestFor(MAX)=UNKNOWN",
      "write(0)=0 write(39)=1 slot(0,0,0)=0 slot(0,1,0)=39 take(0)=1 take(39)=2 put(39)=2 put(0)=3 scan(39)=2 scan(0)=3"
      + " load(0,0)=1 load(39,0)=1 nearestFor(0)=0 nearestFor(39)=0 drop(0)=1 drop(39)=1",
      "<w0;w39;t39;d0>=4 <w40>=UNKNOWN <t40>=UNKNOWN <p40>=UNKNOWN <d40>=UNKNOWN");
    s.test("LOADS", "A load lies nowhere (at first), in a slot, or in the bag.",
      "load(0,0)=0 load(20,0)=0 load(39,0)=0 count(2)=0 caravan(3)=0",
      "write(0)=0 load(0,0)=1 take(0)=1 load(0,0)=2 put(0)=1 load(0,0)=1 drop(0)=1 load(0,0)=0",
      "write(0) take(0) drop(0)=2 load(0,0)=0 caravan(3)=0",
      "write(1)=0 go(1)=1 write(1)=0 count(2)=1 take(1)=1 count(2)=0 caravan(3)=1 load(1,1)=NONE write(1)=NOT_POSSIBLE take(1)=NOT_POSSIBLE");
    s.test("LOADS", "A slot is live if its load lies there, otherwise dead.",
      "write(1) slot(0,0,2)=1 write(1) slot(0,0,2)=0 slot(0,1,2)=1 zone(0,1)=1 zone(0,2)=1 count(2)=1 count(3)=1",
      "write(1) take(1) slot(0,0,2)=0 zone(0,1)=0 zone(0,2)=1 put(1)=1 slot(0,0,2)=0 slot(0,1,2)=1",
      "write(1) drop(1) slot(0,0,2)=0 count(3)=1 write(1)=1 slot(0,0,2)=0 slot(0,1,2)=1",
      "write(1) go(1) write(1)=0 slot(0,0,2)=0 slot(1,0,2)=1 zone(0,1)=0 zone(1,1)=1",
      "<w1;g1;w1;g3;r;w2>=6 slot(0,0,0)=2 slot(0,0,2)=1 slot(1,0,2)=1 count(2)=2",
      "write(0) drop(0) slot(0,0,2)=0");
    s.test("LOADS", "A load has a heat (0 at first, 99 at most); it is hot if its heat is at least the bound (1 to 9, at first 3).",
      "load(0,4)=0 load(39,4)=0 load(0,5)=0 load(39,5)=0 count(7)=3 count(6)=0",
      "write(1) write(1) load(1,4)=2 load(1,5)=0 count(6)=0 write(1) load(1,4)=3 load(1,5)=1 count(6)=1",
      "set(2,1)=3 load(1,5)=0 count(6)=0 write(1) load(1,5)=1 count(6)=1",
      "lay(2,12)=24 set(2,9)=3 " + times(8, "write(1) ") + "load(1,5)=0 write(1)=8 load(1,4)=9 load(1,5)=1",
      "set(2,0)=BAD_VALUE set(2,10)=BAD_VALUE count(7)=3",
      "lay(2,12)=24 " + times(12, "write(1) ") + "go(1) " + times(12, "write(1) ") + "go(1) "
      + times(6, "reset()=12 " + times(12, "write(1) ") + "go(1) ") + "load(1,4)=96 reset()=12 write(1)=0 write(1)=1 load(1,4)=98"
      + " write(1)=2 load(1,4)=99 write(1)=3 load(1,4)=99 write(1)=4 load(1,4)=99 dusk()=0 load(1,4)=49");
  }

  private static void theCaravan() {
    s.test("THE CARAVAN", "The caravan is at a zone (at first 0).",
      "caravan(0)=0 zone(0,7)=0 go(1)=1 caravan(0)=1 zone(1,7)=0 go(2)=3 caravan(0)=3");
    s.test("THE CARAVAN", "It has a bag for 0 to 6 loads (at first for 3), which has an order: the load that came first is the first;"
      + " and a skin for 10 to 200 units of water (at first for 60; it is full at first).",
      "caravan(3)=0 caravan(4)=3 bagAt(0)=NONE caravan(1)=60 caravan(2)=60",
      "set(0,-1)=BAD_VALUE set(0,7)=BAD_VALUE set(1,9)=BAD_VALUE set(1,201)=BAD_VALUE",
      "set(0,0)=3 caravan(4)=0 set(0,6)=0 caravan(4)=6 set(1,10)=60 caravan(2)=10 set(1,200)=10 caravan(2)=200",
      "<w1;w2;w3;w4;t1;t2;t3>=7 caravan(3)=3 take(4)=FULL",
      "set(0,0)=3 write(1)=0 take(1)=FULL",
      "set(0,1)=3 <w1;w2;t2>=3 take(1)=FULL drop(2)=2 take(1)=1",
      "lay(2,12)=24 set(0,6)=3 <w1;w2;w3;w4;w5;w6;w7;t1;t2;t3;t4;t5;t6>=13 take(7)=FULL bagAt(5)=6 bagAt(6)=NONE",
      "<w1;w2;w3;t2;t3;t1>=6 bagAt(0)=2 bagAt(1)=3 bagAt(2)=1 put(2)=3 bagAt(0)=3 bagAt(1)=1 bagAt(2)=NONE"
      + " take(2)=3 bagAt(2)=2 load(3,6)=0 load(1,6)=1 load(2,6)=2 drop(1)=2 bagAt(0)=3 bagAt(1)=2 bagAt(2)=NONE");
    s.test("THE CARAVAN", "When it comes to a zone with a well, its skin becomes full.",
      "go(3)=3 caravan(1)=57 go(1)=0 caravan(1)=60",
      "go(5)=1 caravan(1)=59",
      "write(1) caravan(1)=59 caravan(0)=0 seal() caravan(1)=59",
      "set(1,200)=60 caravan(1)=60 go(4)=0 caravan(1)=200",
      DRY_LAND + "go(9)=1 setWell(2,true)=1 caravan(1)=1 go(1)=2 caravan(1)=10 go(10)=0 caravan(1)=8",
      "<g3;w1;c>=3 caravan(0)=0 caravan(1)=59",
      DRY_LAND + "go(10)=2 setWell(3,true)=1 go(1)=DRY",
      "go(3)=3 undo()=0 caravan(1)=60 keep() go(2) restore() caravan(1)=60 write(1) keep() restore() caravan(1)=59");
    s.test("THE CARAVAN", "What the caravan does costs water; it is not possible if it has not so much.",
      DRY_LAND + "go(10)=2 caravan(1)=0 go(1)=DRY",
      DRY_LAND + "go(11)=DRY",
      DRY_LAND + "go(9)=1 write(1)=0 caravan(1)=0 write(1)=DRY write(2)=DRY",
      DRY_LAND + "<w1;t1;g8>=3 put(1)=1 caravan(1)=0",
      DRY_LAND + "<w1;t1;g9>=3 put(1)=DRY",
      DRY_LAND + "<g7;s>=2 reset()=0 caravan(1)=0",
      DRY_LAND + "<g8;s>=2 reset()=DRY",
      DRY_LAND + "<g4;w1>=2 caravan(1)=5 clean()=1 caravan(1)=0",
      DRY_LAND + "<g5;w1>=2 caravan(1)=4 clean()=DRY",
      DRY_LAND + "<g6;w1>=2 caravan(1)=3 clean()=DRY",
      DRY_LAND + "<g7;w1>=2 caravan(1)=2 clean()=DRY",
      DRY_LAND + "<g6;w1;d1>=3 caravan(1)=3 clean()=0 caravan(1)=0",
      DRY_LAND + "<g7;w1;d1>=3 caravan(1)=2 clean()=DRY",
      "lay(2,2)=4 " + DRY_LAND + "<g1;s;g3;w1>=4 caravan(1)=5 clean()=DRY",
      "lay(2,2)=4 " + DRY_LAND + "<g1;s;g1;w1>=4 caravan(1)=7 write(1)=1 caravan(1)=6 clean()=2 caravan(1)=0");
    s.test("THE CARAVAN", "A step to the next zone costs 1, a slot that is written 1, a reset 3; the rest nothing.",
      "go(1)=1 caravan(1)=59 caravan(6)=1 go(2)=3 caravan(1)=57 caravan(6)=3 go(24)=3 caravan(6)=27",
      "write(1) caravan(1)=59 caravan(6)=1 take(1) caravan(1)=59 put(1) caravan(1)=58 drop(1) caravan(1)=58"
      + " seal() caravan(1)=58 reset()=2 caravan(1)=55 caravan(6)=5 seal() reset()=0 caravan(1)=52 caravan(6)=8",
      "write(1) dusk() setKind(0,1) setWell(1,true) set(2,4) set(0,6) keep() restore() caravan(1)=59 caravan(6)=1",
      "<w1;w2;c>=3 caravan(1)=52 caravan(6)=8",
      "go(1) lay(2,2) caravan(1)=59 caravan(6)=1");
  }

  private static void writing() {
    s.test("WRITING", "A load may be written in a zone if this is not sealed, and is of the kind 0, or of the kind 1 and the load is hot,"
      + " or of the kind 2 and the load is not hot.",
      "set(2,2)=3 write(1)=0 load(1,5)=0 write(1)=1 load(1,5)=1 seal()=4 write(1)=NOT_POSSIBLE write(2)=NOT_POSSIBLE",
      "set(2,2)=3 setKind(0,1)=0 write(1)=NOT_POSSIBLE set(2,1)=2 write(1)=0 seal()=5 write(1)=NOT_POSSIBLE",
      "set(2,2)=3 setKind(0,2)=0 write(1)=0 write(1)=NOT_POSSIBLE write(2)=1 seal()=4 write(3)=NOT_POSSIBLE",
      "set(2,2)=3 setKind(1,1)=0 setKind(2,2)=0 <w1;w2;w2;t1;t2;g1>=6 put(1)=NOT_POSSIBLE put(2)=0 take(2)=2"
      + " go(1)=2 put(2)=NOT_POSSIBLE put(1)=0 take(1)=2 go(1)=3 put(1)=0 put(2)=1",
      "set(2,2)=3 setKind(1,1)=0 setKind(2,2)=0 <w1;w2;w2;s>=4 nearestFor(1)=2 nearestFor(2)=1 nearestFor(3)=2",
      "set(2,2)=3 setKind(1,1)=0 setKind(2,2)=0 <w1;w2;w2;g1;s;g1;s;g2>=8 nearestFor(1)=0 <s>=1 nearestFor(1)=3 nearestFor(2)=3",
      "set(2,2)=3 setKind(1,1)=0 setKind(2,2)=0 <w1;w2;w2>=3 clean()=2 load(1,1)=2 load(2,1)=1");
    s.test("WRITING", "It comes into the slot at the pointer, with the next mark; the pointer becomes greater by 1.",
      "zone(0,0)=0 count(8)=0 write(9)=0 slot(0,0,0)=9 slot(0,0,1)=0 zone(0,0)=1 count(8)=1",
      "<w1;w2;w3;w4;w5>=5 write(9)=5 slot(0,5,0)=9 slot(0,5,1)=5 zone(0,0)=6 count(8)=6 zone(1,0)=0",
      "<w1;w2;d1;d2;r>=5 write(9)=0 slot(0,0,0)=9 slot(0,0,1)=2 zone(0,0)=1",
      "<w1;w2;t1>=3 put(1)=2 slot(0,2,0)=1 slot(0,2,1)=2 zone(0,0)=3 count(8)=3",
      "<w1;g3;w2;c>=4 slot(0,1,0)=2 slot(0,1,1)=2 zone(0,0)=2 count(8)=3");
    s.test("WRITING", "If the load lay in another slot before, that one is dead then.",
      "write(1) write(1) slot(0,0,2)=0 slot(0,1,2)=1 zone(0,1)=1",
      "write(1) go(1) write(1)=0 slot(0,0,2)=0 slot(1,0,2)=1 zone(0,1)=0 zone(0,2)=1",
      "write(1) write(2) write(3) slot(0,0,2)=1 slot(0,1,2)=1 slot(0,2,2)=1 count(3)=0",
      "write(1) write(2) write(1) slot(0,0,2)=0 slot(0,1,2)=1 slot(0,2,2)=1 count(3)=1");
  }

  private static void cleaning() {
    s.test("CLEANING", "When the caravan cleans the zone where it is, it does the following, all of it or nothing: it takes all live loads"
      + " of the zone, by their slots, into its bag; it resets the zone, if its pointer is not 0; then, as long as any of the loads"
      + " that it took now is in the bag, it goes one step, and puts down those of them that may be written in the zone where it is"
      + " then (those that may not are passed over), in the order of the bag, one after the other.",
      // all of it or nothing
      "<w1;w2;w3;w4>=4 clean()=FULL",
      DRY_LAND + "<w1;w2;w3;g4>=4 caravan(1)=3 clean()=DRY",
      DRY_LAND + "<w1;w2>=2 go(2) go(2) caravan(1)=4 clean()=DRY",
      DRY_LAND + "<w1;g7;w2;g1>=4 caravan(0)=0 caravan(1)=0 clean()=DRY",
      DRY_LAND + "<w1;d1;w1;d1;g4;w1;d1;w1;d1>=9 caravan(1)=2 clean()=DRY",
      DRY_LAND + "<w1;w2;g2;g1;g1>=5 setWell(2,true)=1 clean()=DRY",
      DRY_LAND + "<w1;w2>=2 set(1,12)=10 setWell(0,true)=1 setWell(0,false)=0 <g4;g2;g1;w3;w4>=5 setKind(0,1)=0 clean()=DRY",
      "set(2,2)=3 <g1;s;g1;s;g1;s;g1;w1;w2;w2>=10 setKind(0,2)=0 clean()=NOT_POSSIBLE",
      // by their slots, in the order of the bag
      "<w3;w1;w2>=3 clean()=1 slot(1,0,0)=3 slot(1,1,0)=1 slot(1,2,0)=2 slot(1,3,0)=NONE caravan(3)=0",
      "<w3;w1;w3;w2>=4 clean()=1 slot(1,0,0)=1 slot(1,1,0)=3 slot(1,2,0)=2 slot(1,3,0)=NONE",
      "lay(2,12)=24 <g1;w20;g1>=3 " + times(12, "write(1) ") + "clean()=1 slot(1,0,0)=20 slot(1,1,0)=1 zone(1,0)=2 count(11)=1",
      // nothing is live: it is only reset
      "<w1;d1>=2 clean()=0 zone(0,0)=0 zone(0,6)=1 caravan(5)=0 caravan(0)=0 caravan(1)=56",
      "set(0,0)=3 <w1;d1>=2 clean()=0 zone(0,6)=1",
      // it has a pointer of 0
      "clean()=NONE seal()=6 clean()=NONE",
      "<w1;t1;g1>=3 clean()=NONE",
      // what was in the bag before stays there, and takes room
      "<w9;t9;w1>=3 clean()=1 bagAt(0)=9 bagAt(1)=NONE load(1,1)=1 zone(1,0)=1",
      "<w8;w9;t9;t8;w1>=5 clean()=1 bagAt(0)=9 bagAt(1)=8 bagAt(2)=NONE load(1,2)=0",
      "<w8;w9;t9;t8;w1;w2>=6 clean()=FULL",
      // those that may not be written are passed over, and the next ones are not
      "set(2,2)=3 <w1;w2;w2;w3>=4 setKind(1,1)=0 clean()=2 slot(1,0,0)=2 slot(1,1,0)=NONE slot(2,0,0)=1 slot(2,1,0)=3"
      + " bagAt(0)=NONE count(11)=3 zone(0,6)=1 caravan(5)=2",
      "lay(3,2)=6 <g1;w9;g2;w1;w2;c>=6 slot(1,1,0)=1 slot(2,0,0)=2 caravan(0)=2 zone(1,4)=1",
      // a sealed zone is not sealed then; the heats stay; it is one act
      "<w1;s>=2 clean()=1 zone(0,4)=0 zone(0,0)=0 load(1,4)=1 load(1,3)=1 count(12)=2 undo()=1 load(1,1)=0 zone(0,6)=0");
    s.test("CLEANING", "It must not go further than to the zone that it cleans (there, too, it puts down).",
      "lay(2,2)=4 <g1;s;g1;w1>=4 clean()=2 caravan(0)=0 load(1,1)=0 load(1,2)=0 zone(0,0)=1 zone(0,6)=1",
      "<g1;s;g1;s;g1;s;g1;w1;w2;w1>=10 clean()=4 caravan(0)=0 slot(0,0,0)=2 slot(0,1,0)=1",
      "lay(8,2)=16 " + times(8, "go(1) seal() ") + "caravan(0)=0 go(1) reset()=0 write(3)=0 clean()=8 caravan(0)=1 load(3,1)=1",
      "lay(2,2)=4 <g1;s;g1;w1>=4 setKind(0,1)=0 clean()=NOT_POSSIBLE setKind(0,2)=1 clean()=2",
      "lay(2,2)=4 " + DRY_LAND + "<g1;s;g3;w1>=4 setKind(0,1)=0 caravan(1)=5 clean()=NOT_POSSIBLE",
      "lay(2,2)=4 " + DRY_LAND + "<g1;s;g3;w1;w1>=5 setKind(0,1)=0 caravan(1)=4 clean()=DRY");
  }

  private static void texts() {
    s.test("TEXTS", "There is a text of at most 60 characters, empty at first.",
      "count(13)=0 perform()=-100 clearText()=0",
      times(59, "type(s) ") + "count(13)=59 type(s)=60 type(s)=FULL count(13)=60",
      times(29, "type(s) type(;) ") + "type(w) type(1)=60 type(x)=FULL type(;)=FULL perform()=NOT_POSSIBLE clearText()=60",
      "set(0,6)=3 " + times(29, "type(r) type(;) ") + "type(w) type(1)=60 type(x)=FULL type(;)=FULL perform()=30 slot(0,0,0)=1");
    s.test("TEXTS", "A text of orders is one or more orders with \";\" between two.",
      "<s>=1 <s;s>=2 <d1;s;d2>=3",
      times(29, "type(s) type(;) ") + "type(r)=59 perform()=30 zone(0,4)=0 zone(0,6)=1",
      "perform()=-100 <;>=-100 <;s>=-100 <s;>=-102 <s;;s>=-102 <ss>=-101 <s,s>=-101 <s:s>=-101 <w1w2>=-102");
    s.test("TEXTS", "An order is a letter, and for some a number of one or two digits without a zero in front (unless it is the single"
      + " digit 0): \"g\" and the steps, \"w\", \"t\", \"p\", \"d\" and a load; \"r\", \"s\", \"c\" without a number.",
      "<g1>=1 <g9>=1 <g10>=1 <g24>=1 <g0>=BAD_VALUE <g25>=BAD_VALUE <g99>=BAD_VALUE",
      "<g>=-101 <g;s>=-101 <g00>=-102 <g01>=-102 <g100>=-103 <g241>=-103 <gg>=-101",
      "<w0>=1 <w9>=1 <w10>=1 <w39>=1 <w40>=UNKNOWN <w99>=UNKNOWN <w>=-101 <w;>=-101 <w00>=-102 <w07>=-102 <w100>=-103 <w391>=-103",
      "<w0;w9;w10;t0;t9;t10>=6 <t40>=UNKNOWN <t99>=UNKNOWN <t>=-101 <t;>=-101 <t00>=-102 <t07>=-102 <t100>=-103",
      "<w0;w9;w10;t0;t9;t10;p0;p9;p10>=9 <p40>=UNKNOWN <p99>=UNKNOWN <p>=-101 <p;>=-101 <p00>=-102 <p07>=-102 <p100>=-103",
      "<w0;w39;w9;d0;d39;d9>=6 <d40>=UNKNOWN <d99>=UNKNOWN <d>=-101 <d;>=-101 <d00>=-102 <d07>=-102 <d100>=-103",
      "<r>=1 <s>=1 <c>=1 <r0>=-101 <s1>=-101 <c9>=-101 <r;s5>=-103 <rs>=-101");
    s.test("TEXTS", "They are go(), write(), take(), put(), drop(), reset(), seal() and clean().",
      "<g2>=1 caravan(0)=2 caravan(5)=2 <g25>=BAD_VALUE",
      "<w5>=1 slot(0,0,0)=5 load(5,4)=1 load(5,0)=1 <s;w5>=NOT_POSSIBLE",
      "write(5) write(6) <t6>=1 bagAt(0)=6 slot(0,1,2)=0 <t6>=NOT_POSSIBLE",
      "write(5) write(6) take(6) <p6>=1 load(6,2)=2 count(11)=1 load(6,4)=1 <p6>=NOT_POSSIBLE",
      "write(5) write(6) <d5>=1 load(5,0)=0 load(5,4)=0 load(6,0)=1 <d40>=UNKNOWN",
      "seal() <r>=1 zone(0,4)=0 zone(0,6)=1 write(5) <r>=NOT_POSSIBLE",
      "<s>=1 zone(0,4)=1 zone(1,4)=0",
      "write(5) <c>=1 load(5,1)=1 zone(0,6)=1 count(11)=1 <s;g3;w6;c>=4 load(6,1)=2");
    List<String> runs = new ArrayList<>(List.of(
      "perform()=-100 <x>=-100 <1>=-100 <r;x>=-102 <rx;x>=-101 <xx>=-100 <w1;;x>=-103",
      "<w>=-101 <w1;>=-103 <w12;>=-104 <w1;g>=-104 <s;>=-102 <s;r;t>=-105",
      times(29, "type(s) type(;) ") + "type(s) type(s) perform()=-159",
      times(29, "type(s) type(;) ") + "type(w) perform()=-159",
      times(29, "type(s) type(;) ") + "type(w) type(w) perform()=-159",
      times(30, "type(s) type(;) ") + "perform()=-160",
      times(60, "type(x) ") + "perform()=-100"));
    for (int sign = 0; sign <= 260; sign++) { addFaultsOf(sign, runs); }
    for (int sign : new int[] {304, 315, 359, 371, 1633, 8217, 65297, 65535}) { addFaultsOf(sign, runs); }
    s.test("TEXTS", "The fault of the text is the index, from 0, of the first character that is not allowed at its place, or the length of"
      + " the text if it ends too early (the empty text does).", runs.toArray(new String[0]));
  }

  /** A sign at each place where it is not allowed, of a letter, a digit, a second digit and the end of an order. */
  private static void addFaultsOf(int sign, List<String> runs) {
    String typed = "type(#" + sign + ") ";
    boolean isLetter = sign < 128 && "gwtpdrsc".indexOf(sign) >= 0;
    boolean isDigit = sign >= '0' && sign <= '9';
    boolean isEnd = sign == ';';
    if (!isLetter) { runs.add(typed + "perform()=-100"); runs.add("type(s) type(;) " + typed + "perform()=-102"); }
    if (!isDigit) { runs.add("type(d) " + typed + "perform()=-101"); }
    if (!isEnd && !isDigit) { runs.add("type(d) type(1) " + typed + "perform()=-102"); }
    if (!isEnd) { runs.add("type(s) " + typed + "perform()=-101"); }
    if (!isEnd) { runs.add("type(d) type(0) " + typed + "perform()=-102"); }
    if (!isEnd) { runs.add("type(d) type(1) type(0) " + typed + "perform()=-103"); }
  }

  private static void history() {
    s.test("HISTORY", "A history of at most 4 states is kept; when one more is recorded, the oldest one is dropped; undo() removes and restores"
      + " the latest one.",
      "count(12)=0 undo()=NONE",
      "write(0) count(12)=1 write(1) count(12)=2 write(2) count(12)=3 write(3) count(12)=4 undo()=3 undo()=2 undo()=1 undo()=0"
      + " zone(0,0)=0 undo()=NONE",
      "write(0) write(1) write(2) write(3) write(4) count(12)=4 undo()=3 zone(0,0)=4 undo()=2 zone(0,0)=3 undo()=1 zone(0,0)=2"
      + " undo()=0 zone(0,0)=1 undo()=NONE load(0,0)=1 load(1,0)=0",
      "lay(2,12)=24 " + times(11, "write(7) ") + "count(12)=4 undo()=3 undo()=2 undo()=1 undo()=0 zone(0,0)=7 undo()=NONE",
      "write(0) write(1) undo()=1 write(2) slot(0,1,0)=2 undo()=1 zone(0,0)=1 undo()=0 zone(0,0)=0",
      "write(0) write(1) write(2) write(3) undo()=3 undo()=2 go(1) go(1) seal() count(12)=4 undo()=3 zone(2,4)=0 undo()=2 caravan(0)=1"
      + " undo()=1 caravan(0)=0 zone(0,0)=2 undo()=0 zone(0,0)=1 undo()=NONE",
      "write(0) write(1) undo()=1 undo()=0 undo()=NONE write(2) count(12)=1 undo()=0 zone(0,0)=0");
    String setup = "write(1) write(2) take(2) ";
    s.test("HISTORY", "Each call of a method that is described as an act, and returns no error and not NONE, records the state that was before it.",
      "remember lay(2,2)=4 count(12)=1 undo()=0 same", "remember lay(4,6)=24 count(12)=1 undo()=0 same",
      setup + "remember setKind(2,1)=0 count(12)=4 undo()=3 same",
      setup + "remember setWell(2,true)=2 count(12)=4 undo()=3 same",
      setup + "remember set(0,1)=3 count(12)=4 undo()=3 same", setup + "remember set(1,11)=60 count(12)=4 undo()=3 same",
      setup + "remember set(2,1)=3 count(12)=4 undo()=3 same",
      setup + "remember go(4)=0 count(12)=4 undo()=3 same", setup + "remember write(1)=2 count(12)=4 undo()=3 same",
      setup + "remember take(1)=2 count(12)=4 undo()=3 same", setup + "remember put(2)=2 count(12)=4 undo()=3 same",
      setup + "remember drop(1)=1 count(12)=4 undo()=3 same", setup + "remember drop(2)=2 count(12)=4 undo()=3 same",
      "<w1;w2;t2;t1>=4 remember reset()=2 count(12)=2 undo()=1 same",
      setup + "remember seal()=4 count(12)=4 undo()=3 same", setup + "remember clean()=1 count(12)=4 undo()=3 same",
      "<w1;w1;w1>=3 remember dusk()=1 count(12)=2 undo()=1 same", "remember dusk()=0 count(12)=1 undo()=0 same",
      setup + "remember <p2;g1;w3>=3 count(12)=4 undo()=3 same", "remember <d1>=1 count(12)=1 undo()=0 same",
      "keep()=0 write(1) remember restore()=0 count(12)=2 undo()=1 same", "keep()=0 restore()=0 count(12)=1",
      // no error, not NONE, and nothing that is no act
      "lay(1,2)=BAD_VALUE setKind(4,0)=UNKNOWN setKind(0,0)=NONE setWell(4,true)=UNKNOWN setWell(0,true)=NONE set(0,3)=NONE"
      + " set(3,3)=BAD_VALUE go(0)=BAD_VALUE write(40)=UNKNOWN take(1)=NOT_POSSIBLE put(1)=NOT_POSSIBLE drop(1)=NONE reset()=NONE"
      + " clean()=NONE perform()=-100 <g0>=BAD_VALUE restore()=NONE undo()=NONE count(12)=0 seal() seal()=NONE count(12)=1",
      "type(s) clearText() keep() zone(0,0) slot(0,0,0)=NONE load(0,0) scan(0)=NONE caravan(0) bagAt(0)=NONE waterTo(1) worst()=NONE"
      + " nearestFor(0) count(0) count(12)=0");
    s.test("HISTORY", "There is one snapshot, empty at first.",
      "restore()=NONE", "write(1) restore()=NONE keep()=1 restore()=1",
      "write(1) keep()=1 write(2) keep()=2 write(3) restore()=2 load(2,0)=1 load(3,0)=0 restore()=2 load(2,0)=1");
    s.test("HISTORY", "A state is everything but the text, the history and the snapshot.",
      "type(s) seal()=6 type(;) undo()=0 count(13)=2 type(s)=3 perform()=2",
      "type(s) keep() type(;) type(r) restore()=0 count(13)=3 perform()=2 zone(0,6)=1",
      "seal() clearText() undo() count(13)=0", "type(s) keep() clearText()=1 restore() count(13)=0",
      "write(1) keep() write(2) restore()=1 count(12)=3 undo()=2 load(2,0)=1 undo()=1 load(2,0)=0 undo()=0 load(1,0)=0",
      "keep()=0 write(1) keep()=1 undo()=0 restore()=1 load(1,0)=1",
      "<w1;w2;t2>=3 keep()=2 remember <g1;p2;w1;w3;t3>=5 undo()=1 same <g1;p2;w1;w3;t3>=5 restore()=2 same",
      RICH + "remember <d1;d2;r;w7;w7;t7;g1;d5;d4;r;p7;p3;g1;r;w8;w8;w9;w9>=18 undo()=3 same",
      RICH + "remember keep()=7 <d1;d2;d4;d5;r;g1;r>=7 lay(3,3)=9 set(0,5)=4 set(1,50)=60 set(2,5)=2 dusk()=0 <w8;w9;t8;g1;p8>=5"
      + " setKind(0,2)=0 setWell(1,true)=2 restore()=7 same write(9)=4 keep()=8 undo()=3 same");
  }

  private static void errors() {
    s.test("ERRORS", "Errors are reported by the constants below.",
      "constant(UNKNOWN)=-1 constant(BAD_VALUE)=-2 constant(FULL)=-3 constant(NOT_POSSIBLE)=-4 constant(NONE)=-5 constant(DRY)=-6",
      "zone(4,0)=-1 zone(0,8)=-2 set(0,0) write(1) take(1)=-3 put(1)=-4 drop(2)=-5 set(1,10) go(3) setWell(0,false) go(8)=-6");
    s.test("ERRORS", "Where several errors can apply, the order of the @return line is the order of the checks.",
      "write(1) lay(1,6)=BAD_VALUE lay(4,13)=BAD_VALUE",
      "setKind(4,3)=UNKNOWN setKind(-1,-1)=UNKNOWN",
      "<w1;w2;t1;t2>=4 set(0,-1)=BAD_VALUE set(0,7)=BAD_VALUE set(3,0)=BAD_VALUE set(0,1)=NOT_POSSIBLE",
      DRY_LAND + "go(10) go(0)=BAD_VALUE go(25)=BAD_VALUE go(24)=DRY",
      DRY_LAND + "<w1;t1;g9>=3 write(40)=UNKNOWN write(1)=NOT_POSSIBLE write(2)=DRY put(40)=UNKNOWN put(2)=NOT_POSSIBLE put(1)=DRY"
      + " seal()=6 write(2)=NOT_POSSIBLE put(1)=NOT_POSSIBLE",
      DRY_LAND + "<w1;t1;g9>=3 setKind(1,1)=0 write(2)=NOT_POSSIBLE put(1)=NOT_POSSIBLE",
      "set(0,0)=3 write(1) take(40)=UNKNOWN take(2)=NOT_POSSIBLE take(1)=FULL go(1) take(1)=NOT_POSSIBLE",
      DRY_LAND + "<g8;w1>=2 reset()=NOT_POSSIBLE drop(1)=1 reset()=DRY",
      DRY_LAND + "set(0,0)=3 <w1;g8>=2 caravan(1)=1 clean()=FULL set(0,1)=0 clean()=DRY",
      "set(0,0)=3 write(1) setKind(0,1) setKind(1,1) setKind(2,1) setKind(3,1) clean()=FULL set(0,1) clean()=NOT_POSSIBLE",
      DRY_LAND + "<g4;w1>=2 setKind(0,1) setKind(1,1) setKind(2,1) setKind(3,1) caravan(1)=5 clean()=DRY",
      "<w40;x>=-104 <g0;w40>=BAD_VALUE <w40;g0>=UNKNOWN",
      "zone(4,8)=UNKNOWN slot(4,0,3)=UNKNOWN slot(0,6,3)=UNKNOWN slot(0,0,3)=BAD_VALUE load(40,7)=UNKNOWN");
    s.test("ERRORS", "NONE is no error; it is returned only if no error applies.",
      "setKind(0,0)=NONE setKind(4,0)=UNKNOWN setKind(0,3)=BAD_VALUE setWell(1,false)=NONE setWell(4,false)=UNKNOWN setWell(0,true)=NONE",
      "set(0,3)=NONE set(3,3)=BAD_VALUE drop(0)=NONE drop(40)=UNKNOWN scan(0)=NONE scan(40)=UNKNOWN bagAt(0)=NONE bagAt(-1)=BAD_VALUE",
      "slot(0,0,0)=NONE slot(0,0,3)=BAD_VALUE slot(0,6,0)=UNKNOWN load(0,1)=NONE load(40,1)=UNKNOWN load(0,6)=NONE load(0,7)=BAD_VALUE",
      DRY_LAND + "go(7) reset()=NONE go(1) reset()=DRY",
      "<s;g1;s;g1;s;g1;s>=7 nearestFor(0)=NONE nearestFor(40)=UNKNOWN",
      "<d1;r;c;d2>=4 count(12)=1");
    s.test("ERRORS", "A call that returns an error or NONE changes nothing.",
      RICH + "lay(9,5)=BAD_VALUE lay(2,2)=NOT_POSSIBLE setKind(4,0)=UNKNOWN setKind(0,3)=BAD_VALUE setKind(3,1)=NONE"
      + " setWell(-1,true)=UNKNOWN setWell(2,true)=NONE setWell(1,false)=NONE set(3,0)=BAD_VALUE set(0,7)=BAD_VALUE set(1,9)=BAD_VALUE"
      + " set(2,0)=BAD_VALUE set(0,0)=NOT_POSSIBLE set(0,4)=NONE set(1,60)=NONE set(2,2)=NONE",
      RICH + "go(0)=BAD_VALUE go(25)=BAD_VALUE write(40)=UNKNOWN write(3)=NOT_POSSIBLE take(40)=UNKNOWN take(4)=NOT_POSSIBLE"
      + " take(3)=NOT_POSSIBLE put(-1)=UNKNOWN put(1)=NOT_POSSIBLE drop(40)=UNKNOWN drop(9)=NONE reset()=NOT_POSSIBLE",
      RICH + "seal() write(1)=NOT_POSSIBLE write(9)=NOT_POSSIBLE put(3)=NOT_POSSIBLE seal()=NONE go(3) clean()=NONE reset()=NONE",
      RICH + "set(0,1)=4 take(1)=FULL clean()=FULL",
      RICH + "setWell(0,false) setWell(2,false) set(1,10) go(4) go(4) caravan(1)=2 go(3)=DRY reset()=NOT_POSSIBLE clean()=DRY"
      + " go(1) reset()=NOT_POSSIBLE go(1) go(1)=DRY write(9)=DRY put(3)=DRY clean()=DRY",
      RICH + "setKind(0,1) seal() setKind(2,1) clean()=NOT_POSSIBLE",
      RICH + "<w1;w2;x>=-106 <w9;s;g1;r>=NOT_POSSIBLE <w9;d1;d2;t9;p9>=NOT_POSSIBLE",
      RICH + "<d1;p3;s;g2;w7;g25>=BAD_VALUE <d1;d2;d9;r;w40>=UNKNOWN",
      RICH + "set(0,3)=4 <w8;t1;t2;t8>=FULL perform()=FULL <w8;g1;c;g2;c>=FULL",
      "seal() undo()=0 undo()=NONE restore()=NONE restore()=NONE",
      RICH + "zone(4,0)=UNKNOWN zone(0,8)=BAD_VALUE slot(0,5,0)=UNKNOWN slot(0,0,3)=BAD_VALUE slot(0,4,0)=NONE load(40,0)=UNKNOWN"
      + " load(0,7)=BAD_VALUE load(3,1)=NONE load(1,6)=NONE scan(40)=UNKNOWN scan(9)=NONE caravan(7)=BAD_VALUE bagAt(-1)=BAD_VALUE"
      + " bagAt(1)=NONE waterTo(4)=UNKNOWN nearestFor(40)=UNKNOWN count(14)=BAD_VALUE",
      "worst()=NONE " + times(29, "type(s) type(;) ") + "type(d) type(1)=60 type(x)=FULL type(;)=FULL");
  }

  private static void constants() {
    s.test("ERRORS", "The constants: `UNKNOWN = -1`: There is no such zone, slot or load.",
      "constant(UNKNOWN)=-1 zone(4,0)=-1 zone(-1,0)=-1 slot(0,6,0)=-1 slot(4,0,0)=-1 load(40,0)=-1 setKind(4,0)=-1 setWell(4,true)=-1"
      + " waterTo(4)=-1 scan(40)=-1 nearestFor(40)=-1 write(40)=-1 take(40)=-1 put(40)=-1 drop(40)=-1");
    s.test("ERRORS", "`BAD_VALUE = -2`: Another argument is out of range.",
      "constant(BAD_VALUE)=-2 lay(1,6)=-2 lay(4,13)=-2 setKind(0,3)=-2 set(3,1)=-2 set(0,7)=-2 go(0)=-2 go(25)=-2 zone(0,8)=-2"
      + " slot(0,0,3)=-2 load(0,7)=-2 caravan(7)=-2 bagAt(-1)=-2 count(14)=-2");
    s.test("ERRORS", "`FULL = -3`: There is no more room.",
      "constant(FULL)=-3 <w1;w2;w3;w4>=4 clean()=-3 <t1;t2;t3>=3 take(4)=-3", times(60, "type(s) ") + "type(s)=-3");
    s.test("ERRORS", "`NOT_POSSIBLE = -4`: This is not possible.",
      "constant(NOT_POSSIBLE)=-4 write(1) lay(4,6)=-4 reset()=-4 put(1)=-4 take(2)=-4 take(1) set(0,0)=-4 write(1)=-4",
      "write(1) setKind(0,1) setKind(1,1) setKind(2,1) setKind(3,1) clean()=-4");
    s.test("ERRORS", "`NONE = -5`: There is no such thing; not an error.",
      "constant(NONE)=-5 undo()=-5 restore()=-5 worst()=-5 scan(0)=-5 bagAt(0)=-5 slot(0,0,0)=-5 load(0,1)=-5 load(0,6)=-5 drop(0)=-5"
      + " reset()=-5 clean()=-5 setKind(0,0)=-5 setWell(0,true)=-5 set(0,3)=-5 <d0>=1");
    s.test("ERRORS", "`DRY = -6`: There is not enough water.",
      DRY_LAND + "constant(DRY)=-6 go(11)=-6 <w1;t1;g9>=3 write(2)=-6 put(1)=-6 reset()=-6",
      DRY_LAND + "<g8;w1>=2 clean()=-6");
  }
}
