/** Promises 33 to 37: what is seen, and who was the steward, what he hoards, which readings fit. */
public final class BooksTest {
    public static void main(String[] args) {
        Due due = new Due();
        see(due);
        stewards(due);
        hoards(due);
        fits(due);
        fromNowOn(due);
        due.finish();
    }

    private static void see(Due due) {
        FatLean x = Due.told("land 5 0;dream ff 1;");
        int[][] bad = {{0, 1}, {9, 1}, {1, -1}, {1, 41}};
        for (int[] b : bad) {
            due.is("see " + b[0] + " " + b[1], x.see(b[0], b[1]), FatLean.BAD);
        }
        due.is("see(1, 0)", x.see(1, 0), 1);
        due.is("see(8, 40)", x.see(8, 40), 2);
        for (int i = 3; i <= 6; i++) {
            due.is("the same again", x.see(1, 0), i);
        }
        due.is("the seventh", x.see(1, 0), FatLean.FULL);
        due.is("bad comes first", x.see(9, 0), FatLean.BAD);
        due.is("count", x.count(0), 6);
        due.is("forget(7)", x.forget(7), FatLean.BAD);
        due.is("forget(-1)", x.forget(-1), FatLean.BAD);
        due.is("forget(6)", x.forget(6), 6);
        due.is("forget(1)", x.forget(1), 6);
        due.is("forget(0)", x.forget(0), 1);
        due.is("forget(0)", x.forget(0), 0);
        due.is("forget(1), there is none", x.forget(1), FatLean.BAD);
    }

    private static void stewards(Due due) {
        FatLean x = Due.told("land 9 1;dream ff 1;dream lf 1;people 1 0;granary 40 0 0;");
        due.is("nothing is seen: all", x.stewards(0, 0), 50);
        due.is("the least", x.stewards(0, 1), 0);
        x.see(1, 4);
        // 8 left: part 1 (4), level 1 (4), need 4 (4)
        due.is("three keep 4 of 8", x.stewards(0, 0), 3);
        due.is("the least of them", x.stewards(0, 1), 11);
        due.is("nothing is left in a lean one", x.stewards(1, 0), 0);
        due.is("none", x.stewards(1, 1), FatLean.NONE);
        x.see(2, 6);
        // 12 left then: part 6, level 4, need 4
        due.is("one", x.stewards(0, 0), 1);
        due.is("part 1", x.stewards(0, 1), 11);
        x.forget(1);
        x.see(2, 4);
        due.is("level and need", x.stewards(0, 0), 2);
        due.is("level 1", x.stewards(0, 1), 21);
        x.see(2, 5);
        due.is("not both", x.stewards(0, 0), 0);
        x.forget(0);
        x.see(8, 0);
        x.see(1, 8);
        // the land feeds them in lean years: who keeps 8 in the first year has some at the end
        due.is("none", x.stewards(0, 0), 0);
        due.is("stewards(2, 0)", x.stewards(2, 0), FatLean.BAD);
        due.is("stewards(-1, 0)", x.stewards(-1, 0), FatLean.BAD);
        due.is("stewards(0, 2)", x.stewards(0, 2), FatLean.BAD);
        due.is("stewards(0, -1)", x.stewards(0, -1), FatLean.BAD);
        due.is("the steward stays", x.rule(9), 0);
        x.forget(0);
        x.year(0);
        due.is("a reading that can not be", x.stewards(0, 0), 50);
    }

    private static void hoards(Due due) {
        FatLean x = Due.told("land 9 0;dream fff 1;granary 40 0 0;");
        due.is("nothing is seen", x.hoards(0), 1023);
        x.see(1, 6);
        due.is("3 of 9", x.hoards(0), 1 << 3);
        x.see(3, 18);
        due.is("and each year", x.hoards(0), 1 << 3);
        x.see(3, 17);
        due.is("none", x.hoards(0), 0);
        x.forget(0);
        x.see(8, 0);
        // 3 * (9 - h) less 5 * h, 0 at least: 27 - 8 h
        due.is("0 at least", x.hoards(0), 0b1111110000);
        x.forget(0);
        x.see(8, 3);
        due.is("27 less 8 by 3", x.hoards(0), 1 << 3);
        x.rot(2);
        x.forget(0);
        x.see(1, 3);
        due.is("behind the rot: 5 less 2", x.hoards(0), 1 << 2);
        x.steward(3, 0);
        due.is("by the steward", x.hoards(0), 0);
        due.is("hoards(1)", x.hoards(1), FatLean.BAD);
        due.is("hoards(-1)", x.hoards(-1), FatLean.BAD);
        due.is("store stays", x.rule(6), 0);
    }

    private static void fits(Due due) {
        FatLean x = Due.told("land 5 1;dream f 1;dream lf 1;dream ff 1;dream lf 2;granary 40 0 0;");
        due.is("nothing is seen", x.fits(), 15);
        x.see(1, 1);
        due.is("lean", x.fits(), 0b1010);
        x.see(2, 6);
        due.is("then fat", x.fits(), 0b1010);
        x.forget(0);
        x.see(2, 6);
        due.is("one of each", x.fits(), 0b1011);
        x.see(3, 7);
        x.see(8, 12);
        due.is("then lean to the end", x.fits(), 0b1011);
        x.steward(1, 1);
        due.is("by another steward", x.fits(), 0);
        x.forget(0);
        x.year(1);
        x.year(0);
        due.is("readings that can not be, too", x.fits(), 15);
    }

    /** Behind YEAR 7 STORE stays as it is, and nothing is stolen. */
    private static void fromNowOn(Due due) {
        FatLean x = Due.told("land 2 0;dream ffffffff 1;granary 40 0 0;");
        x.see(1, 2);
        due.is("2", x.fits(), 1);
        x.year(1);
        due.is("from now on it would be 4", x.fits(), 0);
        x.forget(0);
        x.see(1, 4);
        due.is("4", x.fits(), 1);
        x.see(7, 16);
        x.see(8, 16);
        due.is("16 stay", x.fits(), 1);
        due.is("nothing stolen", x.hoards(0), 1);
        x.forget(0);
        x.see(7, 9);
        x.see(8, 9);
        due.is("7 by 1 of 16", x.hoards(0), 1 << 1);
        for (int y = 1; y < 8; y++) {
            x.year(1);
        }
        x.forget(0);
        x.see(5, 16);
        due.is("year is 8: any steward", x.stewards(0, 0), 50);
        due.is("year is 8: any hoard", x.hoards(0), 1023);
        x.see(1, 15);
        due.is("year is 8: another store", x.fits(), 0);
    }
}
