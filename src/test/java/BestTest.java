/** Promises 26 to 29: the best, what is to be kept for it, what it is worth to know, what a land is worth. */
public final class BestTest {
    public static void main(String[] args) {
        Due due = new Due();
        oneReading(due);
        notKnowing(due);
        hunger(due);
        leastChoice(due);
        lands(due);
        edges(due);
        refused(due);
        due.finish();
    }

    private static void best(Due due, FatLean x, int n, String want) {
        due.is("best in " + n, x.best(n, 0) + "/" + x.best(n, 1), want);
    }

    private static void knowing(Due due, FatLean x, int n, String want) {
        due.is("knowing in " + n, x.knowing(n, 0) + "/" + x.knowing(n, 1), want);
    }

    private static void worth(Due due, FatLean x, int i, int n, String want) {
        due.is("worth of " + i + " in " + n, x.worth(i, n, 0) + "/" + x.worth(i, n, 1), want);
    }

    /** 9 grains in the fat year, at 1; they are kept, as they bring 3 in the lean one. */
    private static void oneReading(Due due) {
        FatLean x = Due.told("land 9 0;dream fl 1;price 1 3;");
        best(due, x, 0, "0/1");
        best(due, x, 1, "9/1");
        best(due, x, 2, "27/1");
        best(due, x, 5, "27/1");
        due.is("choice in 1", x.choice(1, 1), 0);
        due.is("choice in 2", x.choice(2, 1), 9);
        knowing(due, x, 2, "0/1");
        x.rot(2);
        // k kept: 9 - k at once, then 3 for each of k less k / 2: 9 kept bring 5 * 3
        best(due, x, 2, "15/1");
        due.is("choice with rot", x.choice(2, 1), 9);
        x.rot(0);
        x.cap(4);
        best(due, x, 2, "17/1");
        due.is("choice with cap", x.choice(2, 1), 4);
    }

    /** Behind a fat year comes another one (odds 1) or a lean one (odds 2), in which grain is dear. */
    private static void notKnowing(Due due) {
        FatLean x = Due.told("land 6 0;dream ffffffff 1;dream fl 2;price 4 5;granary 40 0 0;");
        // in two years, 6 kept: fat 12 * 4, lean 6 * 5: (48 + 60) / 3; sold: 24 and 24 | 24 and 0: the same 48, but 24
        best(due, x, 2, "36/1");
        due.is("keep all", x.choice(2, 1), 6);
        x.price(1, 9);
        // now sold at 9: 54 and 54 | 54 and 0; kept: 108 | 30
        best(due, x, 2, "72/1");
        due.is("sell all", x.choice(2, 1), 0);
        knowing(due, x, 2, "0/1");
        x.price(1, 4);
        x.rot(3);
        // 6 kept are 4 then: fat 10 * 4 = 40, lean 20: 80 / 3; sold: 48 and 24: 96 / 3; 2 kept: 2 * 4 + 16 + 24 = 48, 16 + 10 = 26: 100 / 3
        best(due, x, 2, "100/3");
        due.is("keep what does not rot", x.choice(2, 1), 2);
        // known: 48 by the first, 26 by the second
        knowing(due, x, 2, "0/1");
        x.rot(2);
        // 1 kept does not rot: 48 and 25: 98 / 3
        best(due, x, 2, "98/3");
        x.need(1);
        x.hunger(20);
        // 5 left: 1 kept; fat 16 + 24 = 40, lean 16 + 0; 3 kept are 2: 8 + 28 = 36, 8 + 5 = 13
        best(due, x, 2, "24/1");
        FatLean y = Due.told("land 5 0;dream f 1;dream ff 1;price 5 9;granary 40 2 0;");
        // 5 kept are 3: lean 27, fat (3 and 5) * 5 = 40: 67; sold: 25 and 50: 75; 1 kept: 20 + 9 = 29, 20 + 30 = 50: 79
        best(due, y, 2, "79/2");
        due.is("one does not rot", y.choice(2, 1), 1);
        y.rot(0);
        y.price(0, 6);
        y.cap(40);
        // sold or kept is one in the fat one; in the lean one each kept brings 6
        best(due, y, 2, "40/1");
        knowing(due, y, 2, "0/1");
        FatLean z = Due.told("land 6 0;dream fl 1;dream fff 1;price 4 6;granary 40 3 0;");
        // 6 kept are 4: 24 | 40; 5 are 4: 4 and 24 = 28 | 44; 3 are 2; 2 kept: 16 and 12 = 28 | 48: 76
        best(due, z, 2, "38/1");
        due.is("two", z.choice(2, 1), 2);
        knowing(due, z, 2, "0/1");
        z.price(0, 9);
        // 6 are 4: 36 | 40; 5 are 4: 40 | 44: 84; 2: 16 and 18 = 34 | 48: 82
        best(due, z, 2, "42/1");
        due.is("five", z.choice(2, 1), 5);
        // known: 40 | 48
        knowing(due, z, 2, "2/1");
        z.weigh(0, 2);
        // odds 2 and 1: 5: 124; known 128
        best(due, z, 2, "124/3");
        knowing(due, z, 2, "4/3");
    }

    private static void hunger(Due due) {
        FatLean x = Due.told("land 8 0;dream fl 1;people 4 2;price 3 3;");
        // each kept costs 3 and saves 2
        best(due, x, 2, "4/1");
        due.is("let them starve", x.choice(2, 1), 0);
        x.hunger(20);
        best(due, x, 2, "0/1");
        due.is("feed them", x.choice(2, 1), 4);
        x.till(0, 1, 2);
        best(due, x, 1, "-40/1");
        best(due, x, 2, "-120/1");
        x.year(1);
        due.is("some starved", x.rule(13), 2);
        best(due, x, 1, "-80/1");
        due.is("lean, nothing left", x.choice(1, 0), 0);
        due.is("by no reading it is fat", x.choice(1, 1), FatLean.NONE);
    }

    private static void leastChoice(Due due) {
        FatLean x = Due.told("land 7 7;dream fl 1;dream lf 1;price 2 2;");
        due.is("all the same: nothing is kept", x.choice(2, 1), 0);
        due.is("all the same: nothing is kept", x.choice(2, 0), 0);
        x.price(0, 3);
        due.is("lean behind fat", x.choice(2, 1), 7);
        due.is("fat behind lean", x.choice(2, 0), 0);
        x.price(0, 0);
        x.price(1, 0);
        due.is("nothing is worth anything", x.choice(5, 1), 0);
    }

    private static void lands(Due due) {
        FatLean x = Due.told("land 9 0;land 4 2;dream fl 1;dream ff 2;people 3 5;price 2 2;");
        // one fat year: 10 sold for 20; without the first 1 for 2; without the second 6 for 12
        best(due, x, 1, "20/1");
        worth(due, x, 0, 1, "18/1");
        worth(due, x, 1, 1, "8/1");
        worth(due, x, 0, 0, "0/1");
        // two years. all: 13 and (2 | 13) less 6: 18 | 40. without the first: 4 and (2 | 4) less 6: 0 | 4 by 2 ..
        // .. and (0 | 4): 0 | 4
        best(due, x, 2, "98/3");
        worth(due, x, 0, 2, "30/1");
        // without the second: 9 and (0 | 9) less 6: 6 | 24 : 54
        worth(due, x, 1, 2, "44/3");
        due.is("nothing is changed", x.bears(1), 13);
        FatLean y = Due.told("land 0 0;dream f 1;people 3 5;");
        worth(due, y, 0, 5, "0/1");
    }

    private static void edges(Due due) {
        FatLean x = Due.told("land 1 1;dream f 1;");
        best(due, x, 5, "5/1");
        for (int y = 0; y < 7; y++) {
            x.year(y == 0 ? 1 : 0);
        }
        x.fill(0);
        best(due, x, 5, "1/1");
        worth(due, x, 0, 5, "1/1");
        x.year(0);
        best(due, x, 5, "0/1");
        knowing(due, x, 5, "0/1");
        worth(due, x, 0, 5, "0/1");
        due.is("year is 8", x.choice(1, 0), FatLean.STATE);
        due.is("bad comes first", x.choice(0, 0), FatLean.BAD);
    }

    private static void refused(Due due) {
        FatLean x = Due.told("land 1 1;dream f 1;dream fl 2;");
        due.is("best(-1, 0)", x.best(-1, 0), FatLean.BAD);
        due.is("best(6, 0)", x.best(6, 0), FatLean.BAD);
        due.is("best(1, 2)", x.best(1, 2), FatLean.BAD);
        due.is("best(1, -1)", x.best(1, -1), FatLean.BAD);
        due.is("choice(0, 1)", x.choice(0, 1), FatLean.BAD);
        due.is("choice(6, 1)", x.choice(6, 1), FatLean.BAD);
        due.is("choice(1, 2)", x.choice(1, 2), FatLean.BAD);
        due.is("choice(1, -1)", x.choice(1, -1), FatLean.BAD);
        due.is("choice(1, 0)", x.choice(1, 0), FatLean.NONE);
        due.is("knowing(-1, 0)", x.knowing(-1, 0), FatLean.BAD);
        due.is("knowing(6, 0)", x.knowing(6, 0), FatLean.BAD);
        due.is("knowing(1, 2)", x.knowing(1, 2), FatLean.BAD);
        due.is("worth(1, 1, 0)", x.worth(1, 1, 0), FatLean.BAD);
        due.is("worth(-1, 1, 0)", x.worth(-1, 1, 0), FatLean.BAD);
        due.is("worth(0, 6, 0)", x.worth(0, 6, 0), FatLean.BAD);
        due.is("worth(0, -1, 0)", x.worth(0, -1, 0), FatLean.BAD);
        due.is("worth(0, 1, 2)", x.worth(0, 1, 2), FatLean.BAD);
        x.year(0);
        due.is("no reading can be: best", x.best(1, 1), FatLean.STATE);
        due.is("no reading can be: choice", x.choice(1, 0), FatLean.STATE);
        due.is("no reading can be: knowing", x.knowing(0, 1), FatLean.STATE);
        due.is("no reading can be: worth", x.worth(0, 0, 1), FatLean.STATE);
        due.is("bad comes first: best", x.best(9, 0), FatLean.BAD);
        due.is("bad comes first: choice", x.choice(9, 0), FatLean.BAD);
        due.is("bad comes first: knowing", x.knowing(9, 0), FatLean.BAD);
        due.is("bad comes first: worth", x.worth(3, 0, 0), FatLean.BAD);
    }
}
