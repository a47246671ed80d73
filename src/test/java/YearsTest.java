/** Promises 19 to 25: years, what is ahead, readings. */
public final class YearsTest {
    private static final String WHOLE = "land 9 2;land 6 1;dream ffll 3;dream flff 2;dream lff 1;people 8 12;"
        + "granary 20 5 4;price 1 6;steward level 2;";

    public static void main(String[] args) {
        Due due = new Due();
        go(due);
        goRefused(due);
        year(due);
        keeps(due);
        ahead(due);
        when(due);
        readings(due);
        due.finish();
    }

    private static void go(Due due) {
        FatLean x = Due.told(WHOLE);
        due.is("fat: food 19, left 11", x.go(1, 11), 0);
        due.is("store: 11 less 2", x.rule(6), 9);
        due.is("money: none", x.rule(12), 0);
        due.is("lean: food 12, left 4", x.go(0, 1), 0);
        due.is("store: 1 less 0", x.rule(6), 1);
        due.is("money: 3 at 6", x.rule(12), 18);
        due.is("lean: food 4", x.go(0, 0), 4);
        due.is("starved", x.rule(13), 4);
        due.is("store", x.rule(6), 0);
        due.is("lean: food 3", x.go(0, 0), 5);
        due.is("starved, all so far", x.rule(13), 9);
        due.is("fat: left 7", x.go(1, 0), 0);
        due.is("money: 7 at 1 more", x.rule(12), 25);
        due.is("year", x.rule(11), 5);
        due.is("fat years", x.count(5), 2);
        FatLean y = Due.told("land 9 9;granary 40 2 40;");
        due.is("half of it rots", y.go(1, 39), 0);
        due.is("39 less 19", y.rule(6), 20);
        due.is("money: 10", y.rule(12), 10);
    }

    private static void goRefused(Due due) {
        FatLean x = Due.told(WHOLE);
        due.is("more than is left", x.go(1, 12), FatLean.BAD);
        due.is("below 0", x.go(1, -1), FatLean.BAD);
        due.is("fat 2", x.go(2, 0), FatLean.BAD);
        due.is("fat -1", x.go(-1, 0), FatLean.BAD);
        x.cap(4);
        due.is("more than cap", x.go(1, 5), FatLean.BAD);
        due.is("no year went", x.rule(11), 0);
        for (int y = 0; y < 8; y++) {
            due.is("year " + y, x.go(1, 4) >= 0 ? 1 : 0, 1);
        }
        due.is("year is 8", x.go(1, 4), FatLean.FULL);
        due.is("year is 8, but bad comes first", x.go(1, 5), FatLean.BAD);
        due.is("year is 8, but bad comes first", x.go(2, 0), FatLean.BAD);
        due.is("all fat", x.count(5), 8);
    }

    private static void year(Due due) {
        FatLean x = Due.told(WHOLE);
        due.is("fat", x.year(1), 0);
        due.is("8 kept, less 1", x.rule(6), 7);
        due.is("3 sold at 1", x.rule(12), 3);
        due.is("lean: food 10, 2 kept", x.year(0), 0);
        due.is("store", x.rule(6), 2);
        due.is("lean: food 5", x.year(0), 3);
        due.is("year(2)", x.year(2), FatLean.BAD);
        due.is("year(-1)", x.year(-1), FatLean.BAD);
        for (int y = 3; y < 8; y++) {
            x.year(1);
        }
        String before = Due.all(x);
        due.is("year is 8", x.year(1), FatLean.FULL);
        due.is("year is 8, but bad comes first", x.year(2), FatLean.BAD);
        due.is("nothing changed", Due.all(x), before);
    }

    private static void keeps(Due due) {
        FatLean x = Due.told("people 3 0;granary 40 0 0;");
        int[][] kinds = {
            {0, 5, 17, 17}, {0, 0, 41, 40}, {0, 0, 0, 0},
            {1, 0, 17, 17}, {1, 1, 17, 8}, {1, 2, 17, 5}, {1, 9, 99, 9}, {1, 0, 99, 40}, {1, 9, 9, 0},
            {2, 0, 17, 0}, {2, 2, 17, 8}, {2, 5, 17, 17}, {2, 4, 16, 16}, {2, 9, 99, 36},
            {3, 9, 99, 0}, {3, 0, 5, 0},
            {4, 0, 17, 0}, {4, 2, 17, 6}, {4, 9, 17, 17}, {4, 9, 99, 27},
        };
        for (int[] k : kinds) {
            x.steward(k[0], k[1]);
            due.is("kind " + k[0] + " v " + k[1] + " keeps(" + k[2] + ")", x.keeps(k[2]), k[3]);
        }
        x.cap(5);
        for (int kind : new int[] {0, 1, 2, 4}) {
            x.steward(kind, kind == 1 ? 0 : 9);
            due.is("kind " + kind + " never more than cap", x.keeps(50), 5);
        }
        due.is("keeps(-1)", x.keeps(-1), FatLean.BAD);
        due.is("keeps(100)", x.keeps(100), FatLean.BAD);
        x.need(40);
        x.cap(40);
        due.is("need times 9 is above cap", x.keeps(99), 40);
    }

    private static void ahead(Due due) {
        FatLean x = Due.told(WHOLE);
        x.go(1, 5);
        due.is("store: 4", x.rule(6), 4);
        due.is("none", x.ahead(0, 0, 0), 4);
        due.is("none", x.ahead(0, 0, 1), 0);
        due.is("fat: left 11, 8 kept less 1", x.ahead(0, 1, 0), 7);
        due.is("3 sold", x.ahead(0, 1, 1), 3);
        due.is("lean: 7 and 3, 2 kept", x.ahead(0, 2, 0), 2);
        due.is("lean: 2 and 3, 3 starve", x.ahead(0, 3, 2), 3);
        due.is("then 5 each to year 7", x.ahead(0, 7, 2), 23);
        due.is("none behind year 7", x.ahead(0, 8, 2), 23);
        due.is("a reading that can not be", x.ahead(2, 1, 0), 7);
        due.is("nothing goes", x.rule(11), 1);
        int[][] bad = {{3, 1, 0}, {-1, 1, 0}, {0, 9, 0}, {0, -1, 0}, {0, 1, 3}, {0, 1, -1}};
        for (int[] b : bad) {
            due.is("ahead " + b[0] + " " + b[1] + " " + b[2], x.ahead(b[0], b[1], b[2]), FatLean.BAD);
        }
        for (int y = 1; y < 8; y++) {
            x.year(0);
        }
        due.is("year is 8: store", x.ahead(1, 8, 0), x.rule(6));
        due.is("year is 8: nobody starves", x.ahead(1, 8, 2), 0);
    }

    private static void when(Due due) {
        FatLean x = Due.told(WHOLE);
        due.is("when(0)", x.when(0), 3);
        due.is("when(1)", x.when(1), 5);
        due.is("when(2)", x.when(2), 0);
        due.is("when(3)", x.when(3), FatLean.BAD);
        due.is("when(-1)", x.when(-1), FatLean.BAD);
        x.go(1, 0);
        due.is("from now on", x.when(2), 4);
        x.need(3);
        due.is("in none", x.when(0), FatLean.NONE);
        FatLean late = Due.told("land 5 0;dream ffffffff 1;dream fffffffl 1;people 5 0;");
        due.is("in the last", late.when(1), 7);
        due.is("in none", late.when(0), FatLean.NONE);
        for (int y = 0; y < 8; y++) {
            late.year(1);
        }
        due.is("year is 8", late.when(1), FatLean.NONE);
    }

    private static void readings(Due due) {
        FatLean x = Due.told(WHOLE);
        due.is("can()", x.can(), 7);
        due.is("count(4)", x.count(4), 3);
        fraction(due, "year 0", x.fat(0, 0), x.fat(0, 1), 5, 6);
        fraction(due, "year 1", x.fat(1, 0), x.fat(1, 1), 2, 3);
        fraction(due, "year 2", x.fat(2, 0), x.fat(2, 1), 1, 2);
        fraction(due, "year 7", x.fat(7, 0), x.fat(7, 1), 0, 1);
        x.year(1);
        due.is("can()", x.can(), 3);
        fraction(due, "year 0, which went", x.fat(0, 0), x.fat(0, 1), 1, 1);
        fraction(due, "year 1", x.fat(1, 0), x.fat(1, 1), 3, 5);
        x.weigh(0, 8);
        fraction(due, "year 1 by other odds", x.fat(1, 0), x.fat(1, 1), 4, 5);
        x.year(0);
        due.is("can()", x.can(), 2);
        x.year(0);
        due.is("can()", x.can(), 0);
        due.is("no reading can be", x.fat(1, 0), FatLean.STATE);
        due.is("fat(8, 0)", x.fat(8, 0), FatLean.BAD);
        due.is("fat(-1, 0)", x.fat(-1, 0), FatLean.BAD);
        due.is("fat(0, 2)", x.fat(0, 2), FatLean.BAD);
        due.is("fat(0, -1)", x.fat(0, -1), FatLean.BAD);
        FatLean y = Due.told("dream fffffffl 1;dream ffffffff 2;dream fffffff 3;");
        for (int i = 0; i < 7; i++) {
            y.year(1);
        }
        due.is("told or lean behind it is the same", y.can(), 7);
        y.year(0);
        due.is("all eight years", y.can(), 5);
    }

    private static void fraction(Due due, String what, long over, long under, long wantOver, long wantUnder) {
        due.is(what, over + "/" + under, wantOver + "/" + wantUnder);
    }
}
