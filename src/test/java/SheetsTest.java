/** Promises 39 to 45: images, sheets, what is torn, counts. */
public final class SheetsTest {
    private static final String WHOLE = "land 9 2;land 6 1;dream ffll 3;dream flff 2;people 8 12;granary 20 5 4;"
        + "price 1 6;steward level 2;";

    public static void main(String[] args) {
        Due due = new Due();
        images(due);
        imagesRefused(due);
        sheet(due);
        lay(due);
        read(due);
        readRefused(due);
        readTorn(due);
        readOfNoYears(due);
        count(due);
        due.finish();
    }

    private static void images(Due due) {
        FatLean x = Due.told(WHOLE);
        x.go(1, 5);
        due.is("none was", x.keep(1), 0);
        String then = Due.all(x);
        x.go(0, 0);
        x.go(0, 0);
        x.till(0, 0, 7);
        x.till(1, 1, 7);
        x.weigh(1, 7);
        x.need(7);
        x.hunger(7);
        x.cap(39);
        x.rot(7);
        x.fill(7);
        x.price(0, 7);
        x.price(1, 7);
        x.steward(4, 7);
        due.is("image 0: none was", x.keep(0), 0);
        String later = Due.all(x);
        due.is("back", x.back(1), 1);
        due.is("all is as it was", Due.all(x).replace("|0 2 ", "|0 1 "), then);
        due.is("back to the other", x.back(0), 3);
        due.is("all is as later", Due.all(x), later.replace("|0 1 ", "|0 2 "));
        x.need(1);
        due.is("an image stays as it is", x.back(0), 3);
        due.is("need", x.rule(2), 7);
        due.is("one was", x.keep(1), 1);
        x.need(2);
        due.is("the new one counts", x.back(1), 3);
        due.is("need", x.rule(2), 7);
    }

    /** THE TAPE, what was SEEN, SHEETS and the latest faults are no part of an image. */
    private static void imagesRefused(Due due) {
        FatLean x = Due.told(WHOLE);
        x.see(1, 1);
        x.sheet(0, 0, 5);
        x.feed('l');
        x.keep(0);
        x.see(2, 2);
        x.sheet(0, 1, 7);
        x.feed('a');
        x.read(0, 0, 0, 1);
        due.is("back", x.back(0), 0);
        due.is("seen", x.count(0), 2);
        due.is("sheet", x.count(3), 7);
        due.is("tape", x.count(2), 2);
        due.is("torn", x.torn(), 3);
        due.is("images", x.count(1), 1);
        x.text();
        due.is("fault", x.fault(), 2);
        due.is("back", x.back(0), 0);
        due.is("the latest text's fault", x.fault(), 2);
        due.is("keep(2)", x.keep(2), FatLean.BAD);
        due.is("keep(-1)", x.keep(-1), FatLean.BAD);
        due.is("back(2)", x.back(2), FatLean.BAD);
        due.is("back(-1)", x.back(-1), FatLean.BAD);
        due.is("back(1)", x.back(1), FatLean.STATE);
    }

    private static void sheet(Due due) {
        FatLean x = new FatLean();
        for (int k = 0; k < 4; k++) {
            for (int lane = 0; lane < 3; lane++) {
                due.is("sheet " + k + " " + lane, x.sheet(k, lane, 40), 1);
                due.is("its last cell", x.lay(k, 39, 1), 1);
                due.is("behind it", x.lay(k, 40, 1), -12);
            }
        }
        int[][] bad = {{4, 0, 1}, {-1, 0, 1}, {0, 3, 1}, {0, -1, 1}, {0, 0, 41}, {4, 0, -1}, {0, 3, -1},
            {0, 0, Integer.MAX_VALUE}};
        for (int[] b : bad) {
            due.is("sheet " + b[0] + " " + b[1] + " " + b[2], x.sheet(b[0], b[1], b[2]), FatLean.BAD);
        }
        due.is("size below 0", x.sheet(0, 0, -1), -14);
        due.is("size below 0", x.sheet(0, 2, Integer.MIN_VALUE), -14);
        due.is("what is refused changes nothing", x.count(3), 40);
        due.is("no cells", x.sheet(0, 0, 0), 1);
        due.is("no cells", x.count(3), 0);
        due.is("no cell 0", x.lay(0, 0, 0), -12);
    }

    private static void lay(Due due) {
        FatLean x = Due.told("land 9 9;");
        due.is("nothing", x.lay(0, 0, 1), -11);
        due.is("nothing, whatever the index", x.lay(0, -1, 1), -11);
        x.sheet(0, 0, 4);
        due.is("index -1", x.lay(0, -1, 1), -12);
        due.is("index 4", x.lay(0, 4, 1), -12);
        due.is("index", x.lay(0, Integer.MAX_VALUE, 1), -12);
        due.is("lay(4, ..)", x.lay(4, 0, 1), FatLean.BAD);
        due.is("lay(-1, ..)", x.lay(-1, 0, 1), FatLean.BAD);
        lowestBits(due, x, 0, 256, 257);
        lowestBits(due, x, 1, 65536, 65537);
        lowestBits(due, x, 0, 0x7fffff00, 0x80000001);
        x.sheet(0, 0, 2);
        x.lay(0, 1, 255);
        due.is("255 is -1 in bytes", x.read(0, 0, 0, 1), -20);
        x.sheet(0, 1, 2);
        x.lay(0, 0, 257);
        due.is("257 is 257 in shorts", x.read(0, 1, 0, 1), -20);
        x.lay(0, 0, 1);
        x.lay(0, 1, 65535);
        due.is("65535 is -1 in shorts", x.read(0, 1, 0, 1), -20);
        x.sheet(0, 2, 2);
        x.lay(0, 0, 65537);
        due.is("65537 is 65537 in ints", x.read(0, 2, 0, 1), -20);
        x.sheet(0, 2, 2);
        due.is("a new row has cells 0", x.read(0, 2, 0, 1), 1);
        due.is("a lean year", x.count(5), 0);
    }

    private static void lowestBits(Due due, FatLean x, int lane, int nought, int one) {
        x.keep(0);
        x.sheet(1, lane, 4);
        due.is("lay", x.lay(1, 0, one), 1);
        due.is("lay", x.lay(1, 1, one), 1);
        due.is("lay", x.lay(1, 2, nought), 1);
        due.is("lay", x.lay(1, 3, nought), 1);
        due.is("they are 1, 1, 0, 0", x.read(1, lane, 0, 2), 2);
        due.is("one fat year", x.count(5), 1);
        x.back(0);
    }

    /** Cells: a lean year with nothing kept, a fat one with 5, a lean one with nothing, and one cell more. */
    private static FatLean withSheet(int lane) {
        FatLean x = Due.told(WHOLE);
        x.sheet(2, lane, 7);
        int[] cells = {0, 0, 1, 5, 0, 0, 1};
        for (int i = 0; i < cells.length; i++) {
            x.lay(2, i, cells[i]);
        }
        return x;
    }

    private static void read(Due due) {
        for (int lane = 0; lane < 3; lane++) {
            FatLean x = withSheet(lane);
            FatLean same = Due.told(WHOLE);
            same.go(0, 0);
            same.go(1, 5);
            same.go(0, 0);
            due.is("three years", x.read(2, lane, 0, 3), 3);
            due.is("not torn", x.torn(), 0);
            due.is("as by go()", Due.all(x), Due.all(same));
            FatLean y = withSheet(lane);
            due.is("from cell 2 on", y.read(2, lane, 2, 1), 1);
            due.is("a fat one", y.can(), 3);
            due.is("store 4", y.rule(6), 4);
            FatLean z = withSheet(lane);
            due.is("from cell 3 on: 5 is no year", z.read(2, lane, 3, 1), -20);
            due.is("from cell 1 on: 0 1, 5 0", z.read(2, lane, 1, 2), -20);
        }
    }

    private static void readRefused(Due due) {
        FatLean x = withSheet(1);
        due.is("torn first", x.read(2, 0, 0, 1), 0);
        String before = Due.all(x);
        int[][] bad = {{4, 1, 0, 1}, {-1, 1, 0, 1}, {2, 3, 0, 1}, {2, -1, 0, 1}, {2, 1, 0, 21}, {2, 1, 0, -1}};
        for (int[] b : bad) {
            due.is("read bad", x.read(b[0], b[1], b[2], b[3]), FatLean.BAD);
        }
        x.lay(2, 5, 21);
        due.is("the third keeps too much", x.read(2, 1, 0, 3), -22);
        due.is("it is met ahead of the index", x.read(2, 1, 0, 20), -22);
        x.lay(2, 2, 2);
        due.is("the second is no year", x.read(2, 1, 0, 3), -21);
        x.lay(2, 0, -1);
        due.is("the first is no year", x.read(2, 1, 0, 3), -20);
        due.is("none went, torn as it was", Due.all(x), before);
        FatLean y = Due.told("land 1 1;");
        y.sheet(0, 0, 40);
        due.is("the ninth is one too many", y.read(0, 0, 0, 20), -28);
        due.is("none went", y.rule(11), 0);
        due.is("eight go", y.read(0, 0, 0, 8), 8);
        due.is("then none", y.read(0, 0, 0, 1), -20);
    }

    private static void readTorn(Due due) {
        FatLean x = withSheet(2);
        due.is("three are whole", x.read(2, 2, 0, 4), 3);
        due.is("index", x.torn(), 2);
        due.is("three went", x.rule(11), 3);
        due.is("the second cell is missing", x.read(2, 2, 6, 1), 0);
        due.is("index", x.torn(), 2);
        due.is("another lane", x.read(2, 1, 0, 1), 0);
        due.is("cast", x.torn(), 3);
        due.is("nothing", x.read(3, 1, 0, 1), 0);
        due.is("null", x.torn(), 1);
        for (int f : new int[] {-1, -2, 7, 100, Integer.MAX_VALUE, Integer.MAX_VALUE - 1, Integer.MIN_VALUE}) {
            x.read(3, 1, 0, 1);
            due.is("from cell " + f, x.read(2, 2, f, 20), 0);
            due.is("index", x.torn(), 2);
        }
        due.is("three went", x.rule(11), 3);
        due.is("another lane comes ahead of the index", x.read(2, 0, -1, 1), 0);
        due.is("cast", x.torn(), 3);
        due.is("one goes", x.read(2, 2, 0, 1), 1);
        due.is("not torn", x.torn(), 0);
        x.sheet(2, 0, 0);
        due.is("no cells", x.read(2, 0, 0, 1), 0);
        due.is("index", x.torn(), 2);
    }

    /** With no years there is none that the machine refuses, whatever the sheet; it is the latest read() all the same. */
    private static void readOfNoYears(Due due) {
        FatLean x = withSheet(1);
        x.sheet(0, 1, 0);
        int[][] reads = {{2, 1, 0}, {2, 1, 99}, {2, 1, -1}, {2, 1, Integer.MIN_VALUE}, {2, 0, 0}, {2, 2, 0}, {2, 2, -1},
            {3, 0, 0}, {3, 2, -1}, {0, 0, 0}, {0, 1, 0}, {0, 2, 7}};
        String before = Due.all(x);
        for (int[] r : reads) {
            String told = "read " + r[0] + " " + r[1] + " " + r[2];
            x.read(2, 0, 0, 1);
            due.is(told + ": torn ahead of it", x.torn(), 3);
            due.is(told + " 0", x.read(r[0], r[1], r[2], 0), 0);
            due.is(told + " 0: all is as before, not torn", Due.all(x), before);
        }
        for (int[] bad : new int[][] {{4, 1}, {-1, 1}, {2, 3}, {2, -1}}) {
            due.is("no years, but bad", x.read(bad[0], bad[1], 0, 0), FatLean.BAD);
        }
    }

    private static void count(Due due) {
        FatLean x = Due.told(WHOLE);
        due.is("no cells of nothing", x.count(3), FatLean.NONE);
        x.sheet(1, 0, 5);
        due.is("sheet 0 alone", x.count(3), FatLean.NONE);
        x.sheet(0, 2, 12);
        x.see(1, 1);
        x.see(1, 1);
        x.see(1, 1);
        x.keep(1);
        x.feed(5);
        x.go(1, 0);
        x.go(0, 0);
        x.go(1, 0);
        int[] counts = {3, 1, 1, 12, 1, 2};
        for (int what = 0; what < counts.length; what++) {
            due.is("count(" + what + ")", x.count(what), counts[what]);
        }
        x.keep(0);
        due.is("two images", x.count(1), 2);
        due.is("count(6)", x.count(6), FatLean.BAD);
        due.is("count(-1)", x.count(-1), FatLean.BAD);
    }
}
