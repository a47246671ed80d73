/** The boundary cases of promises 26 to 32, sentence by sentence: the best, stewards by whom nobody starves. */
public final class BoundsPlansTest {
    private static final String RICH = Script.RICH;
    private static final String WHOLE = Script.WHOLE;
    private static final String SIX_LEAN = "go(0,0) go(0,0) go(0,0) go(0,0) go(0,0) go(0,0) ";
    private static final String SIX_FAT = SIX_LEAN.replace("(0,", "(1,");

    public static void main(String[] args) {
        Due due = new Due();
        Script script = new Script(due);
        fractions(script);
        best(script);
        choice(script);
        choiceOfAmount(script);
        knowing(script);
        worth(script);
        safe(script);
        safeKinds(script);
        granary(script);
        least(script);
        script.covers(26, 32);
        due.finish();
    }

    private static void fractions(Script s) {
        String text = "land 1 0;dream f 1;dream l 2;people 1 2;price 0 0;";
        s.holds(0, "signs in the numerator", text, "best(1,*)=-4/3");
        s.holds(0, "in lowest terms", text, "weigh(0,3) weigh(1,6) best(1,*)=-4/3 weigh(0,6) weigh(1,6) best(1,*)=-1/1 "
            + "weigh(0,9) weigh(1,9) hunger(1) best(1,*)=-1/2");
        s.holds(0, "0 is 0 by 1", text, "hunger(0) best(1,*)=0/1 best(0,*)=0/1 knowing(1,*)=0/1 worth(0,0,*)=0/1 "
            + "fat(1,*)=0/1");
        s.holds(0, "a whole number is by 1", text, "fat(0,*)=1/3 go(1,0) fat(0,*)=1/1");
    }

    private static void best(Script s) {
        String one = "land 1 1;dream l 1;";
        s.holds(26, "n YEARS (0 to 5)", one, "best(0,*)=0/1 best(1,*)=1/1 best(4,*)=4/1 best(5,*)=5/1");
        s.holds(26, "none behind YEAR 7: YEAR is 4", one, "go(0,0) go(0,0) go(0,0) go(0,0) best(4,*)=4/1 best(5,*)=4/1");
        s.holds(26, "none behind YEAR 7: YEAR is 3", one, "go(0,0) go(0,0) go(0,0) best(4,*)=4/1 best(5,*)=5/1");
        s.holds(26, "none behind YEAR 7: YEAR is 7", one, SIX_LEAN + "go(0,0) best(0,*)=0/1 best(1,*)=1/1 best(5,*)=1/1");
        s.holds(26, "none behind YEAR 7: YEAR is 8", one, SIX_LEAN + "go(0,0) go(0,0) best(0,*)=0/1 best(1,*)=0/1 "
            + "best(5,*)=0/1");
        s.holds(26, "from now on: MONEY and STARVED so far are not of it", one, "need(9) hunger(5) go(0,0) need(0) "
            + "go(0,0) "
            + "rule(12)=1 rule(13)=8 best(1,*)=1/1");
        s.holds(26, "the least of all", "dream l 9;people 40 20;", "best(1,*)=-800/1 best(5,*)=-4000/1");
        s.holds(26, "the greatest of all", "land 9 9;land 9 9;land 9 9;land 9 9;dream l 9;granary 40 0 40;price 9 9;",
            "best(1,*)=684/1 best(5,*)=1980/1");
        s.holds(26, "CAP 0: nothing can be KEPT", "land 5 0;dream fl 1;granary 0 0 0;price 1 9;", "best(2,*)=5/1 cap(1) "
            + "best(2,*)=13/1");
        s.holds(26, "HUNGER 0, NEED 0", "land 5 0;dream fl 1;people 5 0;", "best(2,*)=0/1 need(0) best(2,*)=5/1");
        s.holds(26, "BAD: n", WHOLE, RICH + "best(-1,0)=BAD best(6,0)=BAD best(8,1)=BAD best(MIN,0)=BAD best(MAX,1)=BAD");
        s.holds(26, "BAD: what", WHOLE, RICH + "best(1,-1)=BAD best(1,2)=BAD best(1,MIN)=BAD best(1,MAX)=BAD");
        s.holds(26, "STATE: no READING CAN BE", one, "go(1,0) best(0,0)=STATE best(0,1)=STATE best(5,0)=STATE");
        s.holds(26, "STATE: no READINGS", "land 1 1;", "best(0,0)=STATE best(5,1)=STATE");
        s.holds(26, "STATE, but BAD is the first that fits", one, "go(1,0) best(6,0)=BAD best(-1,0)=BAD best(1,2)=BAD");
    }

    private static void choice(Script s) {
        String late = "land 9 0;dream fffffffl 1;price 1 9;steward none 0;";
        s.holds(27, "n YEARS (1 to 5)", late, "choice(1,1)=0 choice(5,1)=0 go(1,0) go(1,0) go(1,0) choice(4,1)=0 "
            + "choice(5,1)=9");
        s.holds(27, "YEAR is 6: two are left", late, SIX_FAT + "choice(1,1)=0 choice(2,1)=9 choice(5,1)=9");
        s.holds(27, "YEAR is 7: one is left", late, SIX_FAT + "go(1,9) choice(1,0)=0 choice(5,0)=0 choice(5,1)=NONE");
        s.holds(27, "STATE: YEAR is 8", late, SIX_FAT + "go(1,0) go(0,0) can()=1 choice(1,0)=STATE choice(5,0)=STATE "
            + "choice(1,1)=STATE");
        s.holds(27, "STATE: no READING CAN BE", late, "go(0,0) choice(1,0)=STATE choice(5,1)=STATE");
        s.holds(27, "STATE: no READINGS", "land 9 9;", "choice(1,0)=STATE choice(5,1)=STATE");
        s.holds(27, "NONE: by no READING that CAN BE it is so", "dream f 1;dream l 1;dream ff 1;", "choice(1,0)=0 "
            + "choice(1,1)=0 "
            + "go(0,0) choice(1,1)=NONE choice(5,1)=NONE choice(1,0)=0");
        s.holds(27, "BAD: n", WHOLE, RICH + "choice(0,1)=BAD choice(6,1)=BAD choice(-1,0)=BAD choice(MIN,0)=BAD "
            + "choice(MAX,1)=BAD");
        s.holds(27, "BAD: fat", WHOLE, RICH + "choice(1,-1)=BAD choice(1,2)=BAD choice(1,MIN)=BAD choice(1,MAX)=BAD");
        s.holds(27, "STATE, but BAD is the first that fits", late, "go(0,0) choice(0,0)=BAD choice(6,1)=BAD "
            + "choice(1,2)=BAD");
        s.holds(27, "YEAR is 8, but BAD is the first that fits", late, SIX_FAT + "go(1,0) go(0,0) choice(0,0)=BAD "
            + "choice(1,2)=BAD choice(1,0)=STATE");
        s.holds(27, "NONE, but BAD is the first that fits", "dream f 1;", "choice(1,0)=NONE choice(0,0)=BAD "
            + "choice(6,0)=BAD");
    }

    private static void choiceOfAmount(Script s) {
        s.holds(27, "the least: all the same", "land 7 7;dream fl 1;price 2 2;", "choice(2,1)=0 choice(5,1)=0");
        s.holds(27, "the least: one more only rots", "land 5 0;dream fl 1;granary 40 5 0;price 0 1;", "choice(2,1)=4");
        s.holds(27, "the least: nothing is worth anything", "land 5 0;dream fl 1;price 0 0;", "choice(2,1)=0");
        s.holds(27, "no more than CAP", "land 9 0;dream fl 1;granary 5 0 0;price 0 1;", "choice(2,1)=5 cap(0) "
            + "choice(2,1)=0 "
            + "cap(8) choice(2,1)=8 cap(9) choice(2,1)=9 cap(10) choice(2,1)=9");
        s.holds(27, "no more than is LEFT", "land 9 0;dream fl 1;people 4 1;price 0 1;", "choice(2,1)=5 need(8) "
            + "choice(2,1)=1 "
            + "need(9) choice(2,1)=0 need(10) choice(2,1)=0");
        s.holds(27, "STORE is LEFT, too", "land 9 0;dream fl 1;granary 40 0 31;price 0 1;", "choice(2,1)=40 fill(40) "
            + "choice(2,1)=40 fill(0) choice(2,1)=9");
    }

    private static void knowing(Script s) {
        // 5 of 6 are KEPT for the lean one (by ODDS 2), 2 for the fat one: known 40 and 48, not known 40 and 44
        String two = "land 6 0;dream fl 2;dream fff 1;granary 40 3 0;price 4 9;";
        s.holds(28, "n YEARS (0 to 5)", two, "knowing(0,*)=0/1 knowing(1,*)=0/1 knowing(2,*)=4/3");
        s.holds(28, "it is known: one READING", "land 6 0;dream fl 2;granary 40 3 0;price 4 9;", "knowing(2,*)=0/1 "
            + "knowing(5,*)=0/1");
        s.holds(28, "it is known: one READING that CAN BE", two, "go(1,0) go(0,0) knowing(5,*)=0/1");
        s.holds(28, "YEAR is 7: one is left", "land 9 0;dream lllllllf 1;dream l 1;price 1 9;", SIX_LEAN + "go(0,0) "
            + "knowing(5,*)=0/1 "
            + "go(0,0) knowing(5,*)=0/1 knowing(0,*)=0/1");
        s.holds(28, "YEAR is 6: two are left, that part in the last", "land 6 0;dream fffffffl 2;dream ffffffff "
            + "1;granary 40 3 0;"
            + "price 4 9;", SIX_FAT + "knowing(1,*)=0/1 knowing(2,*)=4/3 knowing(5,*)=4/3");
        s.holds(28, "BAD: n", WHOLE, RICH + "knowing(-1,0)=BAD knowing(6,0)=BAD knowing(MIN,1)=BAD knowing(MAX,0)=BAD");
        s.holds(28, "BAD: what", WHOLE, RICH + "knowing(1,-1)=BAD knowing(1,2)=BAD knowing(1,MIN)=BAD "
            + "knowing(1,MAX)=BAD");
        s.holds(28, "STATE: no READING CAN BE", two, "go(0,0) knowing(0,0)=STATE knowing(0,1)=STATE knowing(5,0)=STATE");
        s.holds(28, "STATE: no READINGS", "land 1 1;", "knowing(0,0)=STATE knowing(5,1)=STATE");
        s.holds(28, "STATE, but BAD is the first that fits", two, "go(0,0) knowing(6,0)=BAD knowing(-1,0)=BAD "
            + "knowing(1,2)=BAD");
    }

    private static void worth(Script s) {
        String four = "land 1 0;land 2 0;land 3 0;land 4 0;dream f 1;dream l 2;";
        s.holds(29, "each LAND of four", four, "worth(0,1,*)=1/3 worth(1,1,*)=2/3 worth(2,1,*)=1/1 worth(3,1,*)=4/3");
        s.holds(29, "n YEARS (0 to 5)", "land 1 1;dream l 1;", "worth(0,0,*)=0/1 worth(0,1,*)=1/1 worth(0,5,*)=5/1");
        s.holds(29, "none behind YEAR 7", "land 1 1;dream l 1;", SIX_LEAN + "worth(0,5,*)=2/1 go(0,0) worth(0,5,*)=1/1 "
            + "go(0,0) "
            + "worth(0,5,*)=0/1");
        s.holds(29, "a LAND that bears nothing", "land 0 0;land 5 5;dream l 1;people 9 20;", "worth(0,5,*)=0/1 "
            + "worth(1,5,*)=500/1");
        s.holds(29, "both FAT and LEAN are without it", "land 2 3;dream fl 1;", "worth(0,1,*)=2/1 worth(0,2,*)=5/1");
        s.holds(29, "the one LAND, for those who starve", "land 3 3;dream l 1;people 2 5;price 7 "
            + "7;", "worth(0,1,*)=17/1");
        s.holds(29, "BAD: no such LAND", WHOLE, RICH + "worth(2,1,0)=BAD worth(-1,1,0)=BAD worth(4,1,1)=BAD "
            + "worth(MIN,1,0)=BAD "
            + "worth(MAX,1,0)=BAD");
        s.holds(29, "BAD: no such LAND of four", four, "worth(4,1,0)=BAD");
        s.holds(29, "BAD: n", WHOLE, RICH + "worth(0,-1,0)=BAD worth(0,6,0)=BAD worth(0,MIN,1)=BAD worth(0,MAX,0)=BAD");
        s.holds(29, "BAD: what", WHOLE, RICH + "worth(0,1,-1)=BAD worth(0,1,2)=BAD worth(0,1,MIN)=BAD "
            + "worth(0,1,MAX)=BAD");
        s.holds(29, "STATE: no READING CAN BE", "land 1 1;dream f 1;", "go(0,0) worth(0,0,0)=STATE worth(0,5,1)=STATE");
        s.holds(29, "STATE: no READINGS", "land 1 1;", "worth(0,0,0)=STATE worth(0,5,1)=STATE");
        s.holds(29, "STATE, but BAD is the first that fits", "land 1 1;", "worth(1,0,0)=BAD worth(0,6,0)=BAD "
            + "worth(0,0,2)=BAD");
    }

    private static void safe(Script s) {
        s.holds(30, "BAD", WHOLE, RICH + "safe(-1)=BAD safe(5)=BAD safe(MIN)=BAD safe(MAX)=BAD");
        s.holds(30, "no READINGS: nobody starves", "people 9 0;", "safe(0)=1023 safe(4)=1023");
        s.holds(30, "no READING CAN BE: nobody starves", "dream f 1;people 9 0;", "safe(0)=0 go(0,0)=9 safe(0)=1023 "
            + "safe(4)=1023");
        s.holds(30, "YEARS to 7: YEAR is 8", "dream l 1;people 9 0;", SIX_LEAN + "go(0,0) safe(0)=0 safe(4)=0 go(0,0) "
            + "safe(0)=1023 safe(3)=1023");
        s.holds(30, "YEARS to 7: the last one", "land 5 0;dream fffffffl 1;people 5 0;", "safe(0)=0 need(0) "
            + "safe(0)=1023");
        s.holds(30, "YEARS from now on: the first one", "land 5 0;dream lfffffff 1;people 5 0;", "safe(3)=0 fill(4) "
            + "safe(3)=0 "
            + "fill(5) safe(3)=1023 fill(0) go(0,0)=5 safe(3)=1023");
        s.holds(30, "each READING that CAN BE, the last one too", "land 5 0;dream ffffffff 1;dream ffffffff 1;dream "
            + "fffffffl 1;"
            + "people 5 0;steward none 0;", "safe(0)=0 can()=7");
        s.holds(30, "a READING that can not be is not looked at", "land 5 0;dream l 1;dream ffffffff 1;people 5 0;",
            "safe(0)=0 go(1,0) safe(0)=1023");
        s.holds(30, "the STEWARD, STORE stay", WHOLE, RICH + "safe(0)=0 rule(9)=2 rule(10)=2 rule(6)=4");
    }

    /** 5 are in store for the last YEAR, to be kept through seven fat ones. */
    private static void safeKinds(Script s) {
        String text = "land 5 0;dream fffffffl 1;people 5 0;granary 40 0 5;";
        s.holds(30, "v (0 to 9; bits): all", text, "safe(0)=1023");
        s.holds(30, "v (0 to 9; bits): part, of v 0 alone", text, "safe(1)=1");
        s.holds(30, "v (0 to 9; bits): level, from v 2 on", text, "safe(2)=0b1111111100");
        s.holds(30, "v (0 to 9; bits): none", text, "safe(3)=0");
        s.holds(30, "v (0 to 9; bits): need, from v 1 on", text, "safe(4)=0b1111111110");
        s.holds(30, "v (0 to 9; bits): level, of v 9 alone", "land 9 0;land 9 0;land 9 0;land 9 0;dream ffffffl 1;"
            + "people 18 0;", "safe(2)=0b1000000000 safe(0)=1023");
        s.holds(30, "CAP is looked at", text, "cap(5) safe(0)=1023 need(4) fill(0) cap(3) safe(0)=0 cap(4) safe(0)=1023");
    }

    private static void granary(Script s) {
        String one = "land 9 0;dream f 1;people 1 0;granary 0 0 0;steward none 0;";
        s.holds(31, "the least CAP", one, "granary()=7 rule(4)=0 rule(9)=3");
        s.holds(31, "NONE: by none", one, "need(2) granary()=NONE");
        s.holds(31, "STORE to 40: 0", one, "need(0) granary()=0");
        s.holds(31, "STORE to 40: STORE", "land 9 0;dream f 1;granary 40 0 10;", "granary()=10 fill(11) granary()=11");
        s.holds(31, "STORE to 40: STORE is 40", "land 9 0;dream f 1;granary 40 0 40;", "granary()=40");
        String three = "land 9 0;land 9 0;land 9 0;dream fff 1;";
        s.holds(31, "STORE to 40: 40", three + "people 8 0;", "granary()=40");
        s.holds(31, "STORE to 40: it would be 45", three + "people 9 0;", "granary()=NONE");
        s.holds(31, "STORE to 40: 40, whatever CAP is", three + "people 8 0;granary 3 0 0;", "granary()=40 rule(4)=3");
        s.holds(31, "no READING CAN BE: STORE", "dream f 1;people 9 0;granary 40 0 7;", "granary()=NONE go(0,0)=2 "
            + "granary()=0 "
            + "fill(6) granary()=6");
        s.holds(31, "no READINGS: STORE", "people 9 0;granary 40 0 7;", "granary()=7");
        s.holds(31, "YEAR is 8: STORE", "dream l 1;people 9 0;", SIX_LEAN + "go(0,0) granary()=NONE go(0,0) granary()=0");
        s.holds(31, "by the worst READING", "land 9 0;dream f 1;dream ff 1;people 1 0;", "granary()=7 go(1,0) go(1,0) "
            + "fill(6) "
            + "granary()=6 fill(5) granary()=NONE");
    }

    private static void least(Script s) {
        String lean = "dream l 1;people 2 0;granary 20 0 3;";
        s.holds(32, "the least STORE now", lean, "least()=16 rule(6)=3 go(0,1) least()=14");
        s.holds(32, "0 to CAP: CAP", lean, "cap(16) least()=16");
        s.holds(32, "NONE: by none", lean, "cap(15) least()=NONE");
        s.holds(32, "0 to CAP: 0", lean, "need(0) least()=0");
        s.holds(32, "0 to CAP: CAP is 0", "dream l 1;granary 0 0 0;", "least()=0 need(1) least()=NONE");
        s.holds(32, "0 to CAP: CAP is 40", "dream l 1;people 5 0;", "least()=40 need(6) least()=NONE");
        s.holds(32, "the STEWARD", lean, "steward(3,0) least()=NONE");
        s.holds(32, "the STEWARD: for one YEAR", lean, SIX_LEAN + "go(0,0) steward(3,0) least()=2");
        s.holds(32, "no READING CAN BE: 0", lean, "go(1,0) least()=0");
        s.holds(32, "no READINGS: 0", "people 9 0;", "least()=0");
        s.holds(32, "YEAR is 8: 0", lean, SIX_LEAN + "go(0,0) least()=2 go(0,0) least()=0");
    }
}
