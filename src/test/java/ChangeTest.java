/** Promises 10 to 18: what is changed. */
public final class ChangeTest {
    private static final String WHOLE = "land 9 2;land 6 1;dream ffll 3;dream flff 2;people 8 12;granary 20 5 4;"
        + "price 1 6;steward level 2;";

    public static void main(String[] args) {
        Due due = new Due();
        till(due);
        weigh(due);
        people(due);
        granary(due);
        price(due);
        steward(due);
        refusedChangesNothing(due);
        due.finish();
    }

    private static void till(Due due) {
        FatLean x = Due.told(WHOLE);
        due.is("lean", x.till(0, 0, 9), 2);
        due.is("fat", x.till(1, 1, 0), 6);
        due.is("lean again", x.till(0, 0, 0), 9);
        due.is("land(0, 0)", x.land(0, 0), 0);
        due.is("land(0, 1)", x.land(0, 1), 9);
        due.is("land(1, 0)", x.land(1, 0), 1);
        due.is("land(1, 1)", x.land(1, 1), 0);
        due.is("bears less", x.bears(1), 9);
        int[][] bad = {{2, 0, 0}, {-1, 0, 0}, {0, 2, 0}, {0, -1, 0}, {0, 0, 10}, {0, 0, -1}};
        for (int[] b : bad) {
            due.is("till " + b[0] + " " + b[1] + " " + b[2], x.till(b[0], b[1], b[2]), FatLean.BAD);
        }
    }

    private static void weigh(Due due) {
        FatLean x = Due.told(WHOLE);
        due.is("weigh", x.weigh(0, 9), 3);
        due.is("weigh again", x.weigh(0, 1), 9);
        due.is("the other's", x.reading(1, 0), 2);
        due.is("odds", x.reading(0, 0), 1);
        int[][] bad = {{2, 1}, {-1, 1}, {0, 0}, {0, 10}, {0, -1}};
        for (int[] b : bad) {
            due.is("weigh " + b[0] + " " + b[1], x.weigh(b[0], b[1]), FatLean.BAD);
        }
    }

    private static void people(Due due) {
        FatLean x = Due.told(WHOLE);
        due.is("need(40)", x.need(40), 8);
        due.is("need(0)", x.need(0), 40);
        due.is("need(41)", x.need(41), FatLean.BAD);
        due.is("need(-1)", x.need(-1), FatLean.BAD);
        due.is("need", x.rule(2), 0);
        due.is("hunger(20)", x.hunger(20), 12);
        due.is("hunger(0)", x.hunger(0), 20);
        due.is("hunger(21)", x.hunger(21), FatLean.BAD);
        due.is("hunger(-1)", x.hunger(-1), FatLean.BAD);
        due.is("hunger", x.rule(3), 0);
    }

    private static void granary(Due due) {
        FatLean x = Due.told(WHOLE);
        due.is("cap below store", x.cap(3), FatLean.STATE);
        due.is("cap is as it was", x.rule(4), 20);
        due.is("cap as store", x.cap(4), 20);
        due.is("fill above cap", x.fill(5), FatLean.BAD);
        due.is("fill as cap", x.fill(4), 4);
        due.is("cap(40)", x.cap(40), 4);
        due.is("cap(41)", x.cap(41), FatLean.BAD);
        due.is("cap(-1), not the state", x.cap(-1), FatLean.BAD);
        due.is("fill(41)", x.fill(41), FatLean.BAD);
        due.is("fill(-1)", x.fill(-1), FatLean.BAD);
        due.is("fill(40)", x.fill(40), 4);
        due.is("fill(0)", x.fill(0), 40);
        due.is("cap(0)", x.cap(0), 40);
        due.is("rot(0)", x.rot(0), 5);
        due.is("rot(2)", x.rot(2), 0);
        due.is("rot(9)", x.rot(9), 2);
        due.is("rot(1)", x.rot(1), FatLean.BAD);
        due.is("rot(10)", x.rot(10), FatLean.BAD);
        due.is("rot(-1)", x.rot(-1), FatLean.BAD);
        due.is("rot", x.rule(5), 9);
    }

    private static void price(Due due) {
        FatLean x = Due.told(WHOLE);
        due.is("in a fat year", x.price(1, 9), 1);
        due.is("in a lean year", x.price(0, 0), 6);
        due.is("rule(7)", x.rule(7), 9);
        due.is("rule(8)", x.rule(8), 0);
        int[][] bad = {{2, 0}, {-1, 0}, {0, 10}, {1, -1}};
        for (int[] b : bad) {
            due.is("price " + b[0] + " " + b[1], x.price(b[0], b[1]), FatLean.BAD);
        }
    }

    private static void steward(Due due) {
        FatLean x = Due.told(WHOLE);
        due.is("steward(4, 9)", x.steward(4, 9), 2);
        due.is("kind", x.rule(9), 4);
        due.is("v", x.rule(10), 9);
        due.is("steward(0, 0)", x.steward(0, 0), 4);
        int[][] bad = {{5, 0}, {-1, 0}, {0, 10}, {0, -1}};
        for (int[] b : bad) {
            due.is("steward " + b[0] + " " + b[1], x.steward(b[0], b[1]), FatLean.BAD);
        }
    }

    private static void refusedChangesNothing(Due due) {
        FatLean x = Due.told(WHOLE);
        String before = Due.all(x);
        x.till(0, 0, 10);
        x.till(2, 0, 1);
        x.weigh(0, 0);
        x.need(41);
        x.hunger(21);
        x.cap(3);
        x.cap(41);
        x.rot(1);
        x.fill(21);
        x.price(2, 1);
        x.price(1, 10);
        x.steward(5, 1);
        x.steward(1, 10);
        x.go(1, 12);
        x.go(2, 0);
        x.year(2);
        x.see(9, 0);
        x.forget(1);
        x.keep(2);
        x.back(0);
        x.sheet(0, 0, 41);
        x.sheet(0, 0, -1);
        x.read(0, 0, 0, 21);
        x.end(1);
        x.feed(128);
        due.is("all is as before", Due.all(x), before);
    }
}
