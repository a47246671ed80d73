/** Promises 30 to 32 and 38: safe stewards, the least granary, the least store; years by a seed. */
public final class SafeTest {
    public static void main(String[] args) {
        Due due = new Due();
        safe(due);
        safeByReadings(due);
        granary(due);
        least(due);
        drift(due);
        due.finish();
    }

    /** Four fat years of 8 more than is eaten, then four lean ones in which 6 are missing each. */
    private static void safe(Due due) {
        FatLean x = Due.told("land 9 0;land 5 0;dream ffff 1;people 6 0;");
        // kept 4v each year: 24 are wanted at the end of the fat ones
        due.is("all", x.safe(0), 1023);
        due.is("level", x.safe(2), 0b1111000000);
        due.is("none", x.safe(3), 0);
        due.is("need", x.safe(4), 0b1111110000);
        // part: v 1 keeps half: 4, 6, 7, 7
        due.is("part", x.safe(1), 1);
        x.cap(23);
        due.is("all, in too small a granary", x.safe(0), 0);
        x.need(5);
        due.is("all, 20 are enough", x.safe(0), 1023);
        due.is("level, 20 are enough", x.safe(2), 0b1111100000);
        due.is("the steward stays", x.rule(9) * 10 + x.rule(10), 0);
        due.is("safe(5)", x.safe(5), FatLean.BAD);
        due.is("safe(-1)", x.safe(-1), FatLean.BAD);
    }

    private static void safeByReadings(Due due) {
        FatLean x = Due.told("land 9 0;dream ffffffff 1;dream lfffffff 1;people 5 0;");
        due.is("by one of them some starve at once", x.safe(0), 0);
        x.year(1);
        due.is("only those that can be", x.safe(3), 1023);
        x.year(0);
        due.is("none can be", x.safe(3), 1023);
        FatLean y = Due.told("land 5 0;dream l 1;people 5 0;");
        due.is("some starve", y.safe(0), 0);
        for (int i = 0; i < 8; i++) {
            y.year(0);
        }
        due.is("all starved, but none from now on", y.safe(0), 1023);
        FatLean last = Due.told("land 5 0;dream fffffffl 1;people 5 0;");
        due.is("the last year counts", last.safe(0), 0);
        last.fill(5);
        due.is("with a store for it", last.safe(0), 1023);
    }

    private static void granary(Due due) {
        FatLean x = Due.told("land 9 0;land 5 0;dream ffff 1;people 6 0;granary 10 0 0;steward none 0;");
        due.is("24 are wanted", x.granary(), 24);
        due.is("cap stays", x.rule(4), 10);
        due.is("the steward stays", x.rule(9), 3);
        x.rot(9);
        // 8, 15, 21, 26 kept (29 is cut), less 2: 24: 6 eaten, 18 less 2 .. too little; the greatest is 29 of 40, less 3
        due.is("with rot there is none", x.granary(), FatLean.NONE);
        x.rot(0);
        x.fill(10);
        x.need(0);
        due.is("from store on", x.granary(), 10);
        x.need(14);
        due.is("none", x.granary(), FatLean.NONE);
        FatLean full = Due.told("land 9 0;dream f 1;people 0 0;granary 40 0 40;");
        due.is("40 is the last", full.granary(), 40);
        FatLean all = Due.told("land 9 0;land 9 0;land 9 0;dream fff 1;people 9 0;");
        due.is("5 by 9 are above 40", all.granary(), FatLean.NONE);
        all.need(8);
        due.is("5 by 8 are 40", all.granary(), 40);
    }

    private static void least(Due due) {
        FatLean x = Due.told("land 0 0;dream l 1;people 2 0;granary 20 0 3;");
        due.is("8 by 2", x.least(), 16);
        due.is("store stays", x.rule(6), 3);
        x.cap(15);
        due.is("none", x.least(), FatLean.NONE);
        x.cap(16);
        due.is("as cap", x.least(), 16);
        x.steward(4, 1);
        due.is("by this steward none", x.least(), FatLean.NONE);
        x.need(0);
        due.is("nothing", x.least(), 0);
        x.need(2);
        x.steward(0, 0);
        x.year(0);
        due.is("7 by 2", x.least(), 14);
        x.year(1);
        due.is("no reading can be", x.least(), 0);
        FatLean y = Due.told("land 9 1;dream l 1;dream fl 1;people 3 0;");
        due.is("the worst reading: 8 by 2", y.least(), 16);
    }

    /** The years by the seed, each drawn as the document says. */
    private static void drift(Due due) {
        FatLean x = Due.told("land 9 2;land 6 1;dream ffll 3;people 8 12;granary 20 5 4;price 1 6;steward level 2;");
        due.is("drift(7, 5, 0)", x.drift(7, 5, 0), 3);
        due.is("drift(7, 5, 1)", x.drift(7, 5, 1), 15);
        due.is("drift(7, 5, 2)", x.drift(7, 5, 2), 7);
        x.need(40);
        x.go(1, 0);
        due.is("some starved", x.rule(13), 21);
        x.need(8);
        x.fill(20);
        x.go(0, 3);
        due.is("some was sold", x.rule(12), 72);
        for (int seed : new int[] {0, 1, -1, 12345, Integer.MAX_VALUE, Integer.MIN_VALUE}) {
            for (int n = 0; n <= 10; n++) {
                int[] want = drawn(seed, n);
                for (int what = 0; what < 3; what++) {
                    due.is("drift " + seed + " " + n + " " + what, x.drift(seed, n, what), want[what]);
                }
            }
        }
        due.is("nothing goes", x.rule(11), 2);
        due.is("drift(1, 11, 0)", x.drift(1, 11, 0), FatLean.BAD);
        due.is("drift(1, -1, 0)", x.drift(1, -1, 0), FatLean.BAD);
        due.is("drift(1, 1, 3)", x.drift(1, 1, 3), FatLean.BAD);
        due.is("drift(1, 1, -1)", x.drift(1, 1, -1), FatLean.BAD);
        for (int y = 2; y < 8; y++) {
            x.year(0);
        }
        due.is("year is 8: store", x.drift(9, 5, 2), x.rule(6));
        due.is("year is 8: money", x.drift(9, 5, 1), 0);
    }

    /** The same years, gone by year() in an object of their own. */
    private static int[] drawn(int seed, int n) {
        FatLean x = Due.told("land 9 2;land 6 1;dream ffll 3;people 8 12;granary 20 5 4;price 1 6;steward level 2;");
        x.need(40);
        x.go(1, 0);
        x.need(8);
        x.fill(20);
        x.go(0, 3);
        int money = x.rule(12);
        int starved = x.rule(13);
        int s = seed;
        for (int y = 2; y < 8; y++) {
            s = s * 1103515245 + 12345;
            int bits = s >>> 16 & 0b111111111111111;
            x.year(bits % 10 < n ? 1 : 0);
        }
        return new int[] {x.rule(13) - starved, x.rule(12) - money, x.rule(6)};
    }
}
