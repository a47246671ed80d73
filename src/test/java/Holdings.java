/** Takes an object apart, by calls alone, until all that it holds is told: the object is of no use then. */
final class Holdings {
    private static final int MOST_CELLS = 40;
    private static final String PLENTY = "land 9 9;granary 40 0 40;";

    private final FatLean x;
    private final StringBuilder told = new StringBuilder();
    private int calls;

    private Holdings(FatLean x, int made) {
        this.x = x;
        this.calls = made;
    }

    /** Of an object on which so many calls were made. */
    static String of(FatLean x, int made, boolean withFault) {
        Holdings h = new Holdings(x, made);
        h.put("fault", withFault ? x.fault() : 0);
        h.put("torn", x.torn());
        for (int what = 0; what <= 5; what++) {
            h.put("count" + what, x.count(what));
        }
        h.court();
        h.rows();
        h.seen();
        h.images();
        h.lanes();
        h.tape();
        h.cells();
        if (h.calls > Script.MOST_CALLS) {
            throw new IllegalStateException("too many calls to take it apart: " + h.calls);
        }
        return h.told.toString();
    }

    private void put(String what, long n) {
        calls++;
        told.append(what).append(' ').append(n).append(", ");
    }

    private void court() {
        for (int what = 0; what <= 13; what++) {
            put("rule" + what, x.rule(what));
        }
        int lands = x.rule(0);
        for (int i = 0; i < lands; i++) {
            put("lean", x.land(i, 0));
            put("fat", x.land(i, 1));
        }
        int readings = x.rule(1);
        for (int r = 0; r < readings; r++) {
            put("odds", x.reading(r, 0));
            put("can be", x.reading(r, 1));
        }
        calls += 2;
    }

    private void rows() {
        int readings = x.rule(1);
        calls++;
        for (int r = 0; r < readings; r++) {
            for (int y = 0; y < 8; y++) {
                put("year", x.reading(r, 10 + y));
            }
        }
    }

    private void seen() {
        calls++;
        for (int n = x.count(0); n >= 0; n--) {
            put("forget", x.forget(n));
            put("fits", x.fits());
            put("hoards", x.hoards(0));
            put("stewards", x.stewards(0, 0));
            put("the least", x.stewards(0, 1));
        }
    }

    private void images() {
        for (int k = 0; k < 2; k++) {
            int year = x.back(k);
            put("image", year);
            if (year >= 0) {
                court();
            }
        }
    }

    private void lanes() {
        for (int k = 0; k < 4; k++) {
            for (int lane = 0; lane < 3; lane++) {
                put("lane", laneFault(k, lane));
            }
        }
    }

    /** CELL -1 is surely missing: a lane that fits has an INDEX there, another one a CAST. */
    private int laneFault(int k, int lane) {
        calls += 2;
        x.read(k, lane, -1, 1);
        return x.torn();
    }

    private void tape() {
        put("text", x.text());
        put("its fault", x.fault());
        court();
    }

    /** With so much FOOD every amount can be KEPT: each CELL is read as a YEAR and the next one as what is KEPT. */
    private void cells() {
        Due.feed(x, PLENTY);
        put("text", x.text());
        x.keep(0);
        calls += PLENTY.length() + 1;
        for (int k = 0; k < 4; k++) {
            for (int lane = 0; lane < 3; lane++) {
                if (laneFault(k, lane) == 2) {
                    cellsOf(k, lane);
                }
            }
        }
    }

    private void cellsOf(int k, int lane) {
        for (int i = 0; i < MOST_CELLS; i++) {
            int went = x.read(k, lane, i, 1);
            put("cell", went);
            if (went == 0) {
                put("the last one", x.lay(k, i, 0));
                return;
            }
            if (went < 0) {
                x.lay(k, i, 0);
                calls++;
                went = x.read(k, lane, i, 1);
                put("the next", went);
            }
            if (went > 0) {
                put("kept", x.rule(6));
                put("fat", x.count(5));
                x.back(0);
                calls++;
            }
        }
    }
}
