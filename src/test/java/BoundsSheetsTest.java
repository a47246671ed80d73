/** The boundary cases of promises 39 to 45, sentence by sentence: images, sheets, counts. */
public final class BoundsSheetsTest {
    private static final String RICH = Script.RICH;
    private static final String WHOLE = Script.WHOLE;
    private static final String EIGHT = "go(1,0) go(0,0) go(0,0) go(0,0) go(0,0) go(0,0) go(0,0) go(0,0) ";
    /** So much is LEFT in each YEAR that every amount up to CAP can be KEPT. */
    private static final String PLENTY = "land 9 9;land 9 9;land 9 9;land 9 9;granary 36 0 0;";

    public static void main(String[] args) {
        Due due = new Due();
        Script script = new Script(due);
        keep(script);
        back(script);
        backOfEach(script);
        sheet(script);
        lay(script);
        layLowestBits(script);
        read(script);
        readRefused(script);
        readTorn(script);
        torn(script);
        count(script);
        script.covers(39, 45);
        due.finish();
    }

    private static void keep(Script s) {
        s.holds(39, "whether there was one", WHOLE, "keep(0)=0 keep(0)=1 keep(1)=0 keep(1)=1 keep(0)=1 count(1)=2");
        s.holds(39, "of a new object", "", "keep(0)=0 keep(1)=0 need(5) back(0)=0 rule(2)=0");
        s.holds(39, "BAD", WHOLE, RICH + "keep(-1)=BAD keep(2)=BAD keep(MIN)=BAD keep(MAX)=BAD count(1)=2");
        s.holds(39, "BAD, none being there", WHOLE, "keep(-1)=BAD keep(2)=BAD count(1)=0 back(0)=STATE back(1)=STATE");
        s.holds(39, "each is its own", WHOLE, "keep(0) need(5) keep(1) need(6) back(0) rule(2)=8 back(1) rule(2)=5 "
            + "back(0) "
            + "rule(2)=8");
        s.holds(39, "the new one in place of the old", WHOLE, "keep(0) need(5) keep(0)=1 need(6) back(0) rule(2)=5");
        s.holds(39, "all but THE TAPE", WHOLE, "feed[ab] keep(0) feed[c] back(0) count(2)=3 end(0)=3 back(0) count(2)=0");
        s.holds(39, "all but what was SEEN", WHOLE, "see(1,1) keep(0) see(2,2) back(0) count(0)=2 forget(0) back(0) "
            + "count(0)=0");
        s.holds(39, "all but SHEETS", WHOLE, "sheet(0,0,5) keep(0) sheet(0,1,7) sheet(1,0,2) back(0) count(3)=7 "
            + "lay(1,1,1)=1 "
            + "read(0,1,6,1)=0 torn()=2");
        s.holds(39, "all but IMAGES", WHOLE, "keep(0) keep(1) need(5) keep(0) back(1)=0 count(1)=2 rule(2)=8 back(0) "
            + "rule(2)=5");
    }

    private static void back(Script s) {
        s.holds(40, "YEAR: 0", WHOLE, "keep(0) " + EIGHT + "rule(11)=8 back(0)=0 rule(11)=0 year(1)=0");
        s.holds(40, "YEAR: 8", WHOLE, "keep(0) " + EIGHT + "keep(1) back(0)=0 back(1)=8 rule(11)=8 year(1)=FULL "
            + "go(1,0)=FULL");
        s.holds(40, "STATE: there is none", WHOLE, "back(0)=STATE back(1)=STATE keep(1) back(0)=STATE back(1)=0");
        s.holds(40, "STATE: the other alone", WHOLE, "keep(0) back(1)=STATE back(0)=0");
        s.holds(40, "STATE: IMAGES are gone by a text", WHOLE, "keep(0) keep(1) tell[]=0 back(0)=STATE back(1)=STATE");
        s.holds(40, "BAD", WHOLE, RICH + "back(-1)=BAD back(2)=BAD back(MIN)=BAD back(MAX)=BAD rule(11)=1");
        s.holds(40, "STATE, but BAD is the first that fits", WHOLE, "back(-1)=BAD back(2)=BAD");
        s.holds(40, "an IMAGE stays: again and again", WHOLE, "keep(0) need(5) till(0,0,9) weigh(0,9) back(0)=0 "
            + "rule(2)=8 need(6) "
            + "till(0,0,8) weigh(0,8) back(0)=0 rule(2)=8 land(0,0)=2 reading(0,0)=3 count(1)=1");
        s.holds(40, "fault() and torn() are of the latest calls", WHOLE, "keep(0) tell[$] read(0,0,0,1) back(0)=0 "
            + "fault()=1 torn()=1");
    }

    /** All is as the IMAGE: one by one. */
    private static void backOfEach(Script s) {
        String[][] changes = {{"till(0,0,7)", "land(0,0)=2"}, {"till(0,1,7)", "land(0,1)=9"}, {"till(1,0,7)", "land(1,0)=1"},
            {"till(1,1,7)", "land(1,1)=6"}, {"weigh(0,7)", "reading(0,0)=3"}, {"weigh(2,7)", "reading(2,0)=1"},
            {"need(7)", "rule(2)=8"}, {"hunger(7)", "rule(3)=12"}, {"cap(7)", "rule(4)=20"}, {"rot(7)", "rule(5)=5"},
            {"fill(7)", "rule(6)=4"}, {"price(1,7)", "rule(7)=1"}, {"price(0,7)", "rule(8)=6"}, {"steward(4,2)", "rule(9)=2"},
            {"steward(2,7)", "rule(10)=2"}, {"go(1,0)", "rule(11)=0"}, {"go(1,0)", "rule(12)=0"}, {"go(0,0)", "rule(13)=0"},
            {"go(1,0)", "count(5)=0"}, {"go(0,0)", "can()=7"}};
        for (String[] c : changes) {
            s.holds(40, "all is as IMAGE k", WHOLE, "keep(1) " + c[0] + " back(1)=0 " + c[1] + " need(8)=8");
        }
        s.holds(40, "the last LAND and READING of four", "land 1 1;land 1 1;land 1 1;land 1 1;dream f 1;dream f 1;dream "
            + "f 1;dream f 1;",
            "keep(0) till(3,0,5) till(3,1,6) weigh(3,7) keep(1) back(0) land(3,0)=1 land(3,1)=1 reading(3,0)=1 back(1) "
            + "land(3,0)=5 land(3,1)=6 reading(3,0)=7");
    }

    private static void sheet(Script s) {
        s.holds(41, "0 to 40 CELLS: 0", "", "sheet(0,0,0)=1 count(3)=0 lay(0,0,0)=-12");
        s.holds(41, "0 to 40 CELLS: 1", "", "sheet(0,1,1)=1 count(3)=1 lay(0,0,0)=1 lay(0,1,0)=-12");
        s.holds(41, "0 to 40 CELLS: 40", "", "sheet(0,2,40)=1 count(3)=40 lay(0,39,0)=1 lay(0,40,0)=-12");
        s.holds(41, "SHEETS 0 to 3, lanes 0 to 2", "", "sheet(0,0,2)=1 sheet(1,1,2)=1 sheet(2,2,2)=1 sheet(3,0,2)=1 "
            + "read(0,0,0,1)=1 "
            + "read(1,1,0,1)=1 read(2,2,0,1)=1 read(3,0,0,1)=1 rule(11)=4");
        s.holds(41, "BAD: n above 40", WHOLE, RICH + "sheet(0,0,41)=BAD sheet(3,2,41)=BAD sheet(1,0,MAX)=BAD count(3)=4");
        s.holds(41, "-10 - 4: below 0", WHOLE, RICH + "sheet(0,0,-1)=-14 sheet(3,2,-1)=-14 sheet(1,1,MIN)=-14 "
            + "count(3)=4 torn()=3");
        s.holds(41, "BAD: no such SHEET", WHOLE, RICH + "sheet(-1,0,1)=BAD sheet(4,0,1)=BAD sheet(MIN,0,1)=BAD "
            + "sheet(MAX,0,1)=BAD");
        s.holds(41, "BAD: lane", WHOLE, RICH + "sheet(0,-1,1)=BAD sheet(0,3,1)=BAD sheet(0,MIN,1)=BAD "
            + "sheet(0,MAX,1)=BAD");
        s.holds(41, "-10 - 4, but BAD is the first that fits", WHOLE, RICH + "sheet(4,0,-1)=BAD sheet(-1,0,-1)=BAD "
            + "sheet(0,3,-1)=BAD "
            + "sheet(0,-1,-1)=BAD");
        s.holds(41, "a new row of CELLS 0", PLENTY, "sheet(0,0,4) lay(0,0,1) lay(0,1,5) lay(0,2,1) lay(0,3,7) "
            + "sheet(0,0,4)=1 "
            + "read(0,0,0,2)=2 count(5)=0 rule(6)=0");
        s.holds(41, "a new row, of another lane and longer", PLENTY, "sheet(0,0,2) lay(0,0,1) lay(0,1,5) sheet(0,2,4)=1 "
            + "read(0,0,0,1)=0 torn()=3 read(0,2,0,2)=2 count(5)=0 rule(6)=0");
        s.holds(41, "a new row that is shorter and then longer", PLENTY, "sheet(0,0,4) lay(0,2,1) lay(0,3,7) "
            + "sheet(0,0,2)=1 "
            + "lay(0,2,1)=-12 sheet(0,0,4)=1 read(0,0,2,1)=1 count(5)=0 rule(6)=0");
        s.holds(41, "of this SHEET alone", PLENTY, "sheet(0,0,2) lay(0,0,1) sheet(1,0,2)=1 read(0,0,0,1)=1 count(5)=1");
    }

    private static void lay(Script s) {
        s.holds(42, "CELL i: the first, the last", PLENTY, "sheet(1,0,4) lay(1,0,1)=1 lay(1,3,9)=1 read(1,0,0,2)=2 "
            + "count(5)=1 "
            + "rule(6)=9");
        s.holds(42, "BAD: k", WHOLE, RICH + "lay(-1,0,1)=BAD lay(4,0,1)=BAD lay(MIN,0,1)=BAD lay(MAX,0,1)=BAD");
        s.holds(42, "NULL", WHOLE, RICH + "lay(1,0,1)=-11 lay(2,0,1)=-11 torn()=3");
        s.holds(42, "NULL, whatever i", WHOLE, RICH + "lay(1,-1,1)=-11 lay(1,40,1)=-11 lay(1,MIN,1)=-11 "
            + "lay(1,MAX,1)=-11");
        s.holds(42, "INDEX: below 0", WHOLE, RICH + "lay(0,-1,1)=-12 lay(3,-1,1)=-12 lay(0,MIN,1)=-12 torn()=3");
        s.holds(42, "INDEX: behind the last", WHOLE, RICH + "lay(0,4,1)=-12 lay(3,2,1)=-12 lay(0,39,1)=-12 "
            + "lay(0,40,1)=-12 "
            + "lay(0,MAX,1)=-12");
        s.holds(42, "INDEX: a row without CELLS", "", "sheet(2,2,0) lay(2,0,1)=-12 lay(2,-1,1)=-12");
        s.holds(42, "INDEX: the 41st", "", "sheet(2,2,40) lay(2,40,1)=-12 lay(2,39,1)=1");
        s.holds(42, "BAD is the first that fits", "", "lay(4,-1,1)=BAD lay(-1,-1,1)=BAD");
    }

    /** As what is KEPT a CELL tells its number, from 0 to 36; another one is refused. */
    private static void layLowestBits(Script s) {
        String[][] kept = {
            {"0", "256", "0"}, {"0", "257", "1"}, {"0", "292", "36"}, {"0", "-256", "0"}, {"0", "-255", "1"}, {"0", "-220", "36"},
            {"0", "65536", "0"}, {"0", "MIN", "0"}, {"0", "2147483397", "5"}, {"1", "65536", "0"}, {"1", "65537", "1"},
            {"1", "65572", "36"}, {"1", "-65536", "0"}, {"1", "-65500", "36"}, {"1", "MIN", "0"}, {"2", "36", "36"}, {"2", "0", "0"}};
        for (String[] c : kept) {
            s.holds(42, "its lowest bits", PLENTY, "sheet(0," + c[0] + ",2) lay(0,1," + c[1] + ")=1 "
            + "read(0," + c[0] + ",0,1)=1 rule(6)="
                + c[2]);
        }
        String[][] refused = {{"0", "127"}, {"0", "128"}, {"0", "255"}, {"0", "-1"}, {"0", "293"}, {"0", "MAX"}, {"0", "384"},
            {"1", "255"}, {"1", "256"}, {"1", "257"}, {"1", "32767"}, {"1", "32768"}, {"1", "65535"}, {"1", "-1"}, {"1", "MAX"},
            {"1", "-32768"}, {"2", "256"}, {"2", "257"}, {"2", "65536"}, {"2", "65537"}, {"2", "-1"}, {"2", "MAX"}, {"2", "MIN"}};
        for (String[] c : refused) {
            s.holds(42, "its lowest bits", PLENTY, "sheet(0," + c[0] + ",2) lay(0,1," + c[1] + ")=1 "
            + "read(0," + c[0] + ",0,1)=-20");
        }
        s.holds(42, "its lowest bits tell a fat YEAR", PLENTY, "sheet(0,0,2) lay(0,0,-255)=1 read(0,0,0,1)=1 "
            + "sheet(0,1,2) "
            + "lay(0,0,65537)=1 read(0,1,0,1)=1 count(5)=2 sheet(0,2,2) lay(0,0,65537)=1 read(0,2,0,1)=-20 "
            + "lay(0,0,257)=1 "
            + "read(0,2,0,1)=-20");
    }

    private static void read(Script s) {
        String cells = "sheet(0,1,6) lay(0,0,1) lay(0,1,5) lay(0,3,2) lay(0,4,1) lay(0,5,36) ";
        s.holds(43, "lean 0 or fat 1, what is KEPT, two CELLS each", PLENTY, cells + "read(0,1,0,3)=3 count(5)=2 "
            + "rule(11)=3 rule(6)=36 "
            + "rule(12)=72 torn()=0");
        s.holds(43, "n (0 to 20): 0", PLENTY, RICH + "read(0,1,0,0)=0 torn()=0 rule(11)=1");
        s.holds(43, "n (0 to 20): 0 whatever the SHEET, lane, f", PLENTY, cells + "read(1,0,0,0)=0 torn()=0 "
            + "read(0,0,0,0)=0 torn()=0 "
            + "read(0,1,-1,0)=0 torn()=0 read(0,1,99,0)=0 torn()=0 read(0,1,MIN,0)=0 read(0,1,MAX,0)=0 torn()=0 "
            + "rule(11)=0");
        s.holds(43, "n (0 to 20): 1 of three", PLENTY, cells + "read(0,1,0,1)=1 rule(11)=1 rule(6)=5");
        s.holds(43, "n (0 to 20): 20", "", "sheet(0,0,16) read(0,0,0,20)=8 rule(11)=8 torn()=2");
        s.holds(43, "n (0 to 20): 20, all of 40 CELLS: the ninth is refused", "", "sheet(0,0,40) read(0,0,0,20)=-28 "
            + "rule(11)=0 "
            + "read(0,0,0,9)=-28 read(0,0,0,8)=8 rule(11)=8");
        s.holds(43, "BAD: n", WHOLE, RICH + "read(0,1,0,-1)=BAD read(0,1,0,21)=BAD read(0,1,0,MIN)=BAD "
            + "read(0,1,0,MAX)=BAD torn()=3");
        s.holds(43, "BAD: k", WHOLE, RICH + "read(-1,1,0,1)=BAD read(4,1,0,1)=BAD read(MIN,1,0,0)=BAD "
            + "read(MAX,1,0,0)=BAD torn()=3");
        s.holds(43, "BAD: lane", WHOLE, RICH + "read(0,-1,0,1)=BAD read(0,3,0,1)=BAD read(0,MIN,0,0)=BAD "
            + "read(0,MAX,0,0)=BAD torn()=3");
        s.holds(43, "BAD is the first that fits: of nothing, too", WHOLE, "read(1,3,-1,1)=BAD read(4,0,-1,1)=BAD "
            + "read(1,0,-1,21)=BAD "
            + "torn()=0");
        s.holds(43, "from CELL f on: the last two", PLENTY, cells + "read(0,1,4,1)=1 count(5)=1 rule(6)=36");
        s.holds(43, "from CELL f on: an odd one", PLENTY, cells + "lay(0,1,0) lay(0,2,7) read(0,1,1,1)=1 count(5)=0 "
            + "rule(6)=7");
        s.holds(43, "one behind another: each by what the one ahead has left", "land 3 0;", "sheet(0,0,4) lay(0,0,1) "
            + "lay(0,1,3) "
            + "lay(0,3,3) read(0,0,0,2)=2 rule(6)=3 rule(12)=0 rule(11)=2");
        s.holds(43, "the last CELLS of 40", "", "sheet(0,0,40) read(0,0,38,1)=1 torn()=0 read(0,0,39,1)=0 torn()=2 "
            + "read(0,0,40,1)=0 torn()=2");
    }

    private static void readRefused(Script s) {
        String two = "sheet(1,2,6) lay(1,0,1) lay(1,1,3) ";
        String[] wrong = {"lay(1,2,2)", "lay(1,2,-1)", "lay(1,3,-1)", "lay(1,3,MIN)", "lay(1,2,MAX)", "lay(1,3,MAX)", "lay(1,3,14)",
            "lay(1,3,37)"};
        for (String w : wrong) {
            s.holds(43, "-20 less i: the second is refused by go(), then none went", PLENTY, "need(28) " + two + w
                + " read(1,2,0,2)=-21 rule(11)=0 rule(6)=0 rule(12)=0 rule(13)=0 read(1,2,0,3)=-21 read(1,2,2,1)=-20 "
            + "read(1,2,0,1)=1 "
                + "rule(11)=1");
        }
        s.holds(43, "-20: more than is LEFT", "land 3 0;", "sheet(1,2,2) lay(1,0,1) lay(1,1,4) read(1,2,0,1)=-20 "
            + "lay(1,1,3) read(1,2,0,1)=1");
        s.holds(43, "-20: more than CAP", "land 3 0;granary 2 0 0;", "sheet(1,2,2) lay(1,0,1) lay(1,1,3) "
            + "read(1,2,0,1)=-20 lay(1,1,2) "
            + "read(1,2,0,1)=1");
        s.holds(43, "-20: YEAR is 8", WHOLE, EIGHT + "sheet(1,0,2) read(1,0,0,1)=-20 rule(11)=8 torn()=0");
        s.holds(43, "-21: YEAR is 7", "", "sheet(1,0,40) read(1,0,0,7)=7 read(1,0,0,2)=-21 rule(11)=7 read(1,0,0,1)=1");
        s.holds(43, "the first met: refused, ahead of an INDEX", PLENTY, "sheet(1,0,5) lay(1,2,2) read(1,0,0,3)=-21 "
            + "torn()=0 rule(11)=0");
        s.holds(43, "the first met: an INDEX, ahead of what would be refused", PLENTY, "sheet(1,0,5) lay(1,4,2) "
            + "read(1,0,0,3)=2 torn()=2 "
            + "rule(11)=2");
        s.holds(43, "the first met: YEAR is 8, ahead of an INDEX", "", "sheet(1,0,19) read(1,0,0,20)=-28 torn()=0 "
            + "rule(11)=0");
        s.holds(43, "the first met: an INDEX, YEAR being 8", "", "sheet(1,0,17) read(1,0,0,20)=8 torn()=2 rule(11)=8");
        s.holds(43, "the first met: CAST, ahead of what would be refused", PLENTY, "sheet(1,0,2) lay(1,0,2) "
            + "read(1,1,0,1)=0 torn()=3");
    }

    private static void readTorn(Script s) {
        s.holds(43, "those that were whole ahead went", PLENTY, "sheet(2,1,5) lay(2,0,1) lay(2,1,9) lay(2,3,8) "
            + "lay(2,4,1) read(2,1,0,3)=2 "
            + "torn()=2 rule(11)=2 rule(6)=8 count(5)=1");
        s.holds(43, "none was whole ahead", PLENTY, "sheet(2,1,1) read(2,1,0,1)=0 torn()=2 rule(11)=0");
        s.holds(43, "a row without CELLS", PLENTY, "sheet(2,1,0) read(2,1,0,1)=0 torn()=2 read(2,1,0,20)=0 torn()=2");
        for (String f : new String[] {"-1", "-2", "-3", "6", "7", "40", "MIN", "MAX", "2147483646", "-2147483647"}) {
            s.holds(43, "INDEX: from CELL f on", PLENTY, "sheet(2,1,6) read(2,1," + f + ",20)=0 torn()=2 "
            + "read(2,1," + f + ",1)=0 torn()=2 "
                + "rule(11)=0");
        }
        for (int has = 0; has < 3; has++) {
            for (int as = 0; as < 3; as++) {
                s.holds(43, "taken as of a lane: " + has + " as " + as, PLENTY, "sheet(2," + has + ",4) "
            + "read(2," + as + ",0,2)="
                    + (has == as ? "2 torn()=0 rule(11)=2" : "0 torn()=3 rule(11)=0"));
            }
            s.holds(43, "NULL, whatever the lane", PLENTY, "read(2," + has + ",0,1)=0 torn()=1 "
            + "read(2," + has + ",-1,20)=0 torn()=1 rule(11)=0");
        }
        s.holds(43, "CAST, whatever f", PLENTY, "sheet(2,1,4) read(2,0,-1,1)=0 torn()=3 read(2,2,4,1)=0 torn()=3 "
            + "read(2,0,MAX,20)=0 "
            + "torn()=3");
        s.holds(43, "CAST, whatever the CELLS", PLENTY, "sheet(2,1,0) read(2,0,0,1)=0 torn()=3");
    }

    private static void torn(Script s) {
        s.holds(44, "0: of none", WHOLE, "torn()=0 sheet(0,0,-1)=-14 torn()=0 lay(1,0,0)=-11 torn()=0");
        s.holds(44, "1, 2, 3, 0", WHOLE, "read(0,0,0,1)=0 torn()=1 sheet(0,0,2) read(0,0,1,1)=0 torn()=2 "
            + "read(0,1,0,1)=0 torn()=3 "
            + "read(0,0,0,1)=1 torn()=0");
        s.holds(44, "0: of a read() of no YEARS", WHOLE, "read(0,0,0,1)=0 torn()=1 read(0,0,0,0)=0 torn()=0");
        s.holds(44, "that came to an end: not one that is BAD", WHOLE, "read(0,0,0,1)=0 torn()=1 read(0,0,0,21)=BAD "
            + "read(4,0,0,1)=BAD "
            + "read(0,3,0,1)=BAD torn()=1");
        s.holds(44, "that came to an end: not one of which a YEAR is refused", WHOLE, "read(0,0,0,1)=0 torn()=1 "
            + "sheet(0,0,2) lay(0,0,2) "
            + "read(0,0,0,1)=-20 torn()=1 read(0,0,0,2)=-20 torn()=1");
        s.holds(44, "no other call changes it", WHOLE, RICH + "torn()=3 back(0)=0 torn()=3 text()=1 torn()=3 "
            + "tell[$]=-10 torn()=3 "
            + "sheet(0,0,2)=1 torn()=3 lay(0,0,1)=1 torn()=3 go(1,0)=0 torn()=3");
    }

    private static void count(Script s) {
        s.holds(45, "each its own", WHOLE, "count(0)=0 see(1,1) see(1,1) see(1,1) count(0)=3 keep(1) count(1)=1 "
            + "feed[abcd] count(2)=4 "
            + "sheet(0,0,12) count(3)=12 go(1,0) count(4)=2 count(5)=1");
        s.holds(45, "0 SEEN: none, 6", WHOLE, "count(0)=0 see(1,1)*6 count(0)=6 see(1,1)=FULL count(0)=6");
        s.holds(45, "1 IMAGES: none, 1, 2", WHOLE, "count(1)=0 keep(1) count(1)=1 keep(1) count(1)=1 keep(0) count(1)=2 "
            + "keep(0) count(1)=2 "
            + "tell[] count(1)=0");
        s.holds(45, "1 IMAGES: the first alone", WHOLE, "keep(0) count(1)=1");
        s.holds(45, "2 bytes: none, 160", "", "count(2)=0 feed(32)*160 count(2)=160 feed(32)=FULL count(2)=160 text() "
            + "count(2)=0");
        s.holds(45, "3 CELLS of SHEET 0: NONE: nothing", WHOLE, "count(3)=NONE sheet(1,0,5) sheet(2,0,5) sheet(3,0,5) "
            + "count(3)=NONE");
        s.holds(45, "3 CELLS of SHEET 0: 0, 40", WHOLE, "sheet(0,2,0) count(3)=0 sheet(0,0,40) count(3)=40 "
            + "sheet(0,0,41)=BAD count(3)=40");
        s.holds(45, "4 READINGS that CAN BE: none, 4", "dream f 1;dream f 1;dream ff 1;dream ffl 1;", "count(4)=4 "
            + "go(1,0) count(4)=4 "
            + "go(0,0) count(4)=2 go(1,0) count(4)=0");
        s.holds(45, "5 fat YEARS of THE PAST: none, 8", "", "count(5)=0 year(0) count(5)=0 year(1) count(5)=1 tell[] "
            + "count(5)=0 year(1) year(1) "
            + "year(1) year(1) year(1) year(1) year(1) year(1) count(5)=8 year(1)=FULL count(5)=8");
        s.holds(45, "5 fat YEARS of THE PAST: the last one", "", EIGHT + "count(5)=1 tell[] go(0,0) go(0,0) go(0,0) "
            + "go(0,0) go(0,0) go(0,0) "
            + "go(0,0) go(1,0) count(5)=1");
        s.holds(45, "BAD", WHOLE, RICH + "count(-1)=BAD count(6)=BAD count(MIN)=BAD count(MAX)=BAD");
    }
}
