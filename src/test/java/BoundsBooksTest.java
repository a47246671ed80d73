/** The boundary cases of promises 33 to 37, sentence by sentence: what is seen, by whom, what is stolen. */
public final class BoundsBooksTest {
    private static final String RICH = Script.RICH;
    private static final String WHOLE = Script.WHOLE;
    private static final String SEVEN_LEAN = "go(0,0) go(0,0) go(0,0) go(0,0) go(0,0) go(0,0) go(0,0) ";

    public static void main(String[] args) {
        Due due = new Due();
        Script script = new Script(due);
        see(script);
        forget(script);
        behindYearSeven(script);
        stewards(script);
        hoards(script);
        fits(script);
        script.covers(33, 37);
        due.finish();
    }

    private static void see(Script s) {
        s.holds(33, "behind y YEARS (1 to 8)", WHOLE, "see(1,0)=1 see(8,0)=2 see(2,0)=3 see(7,0)=4 count(0)=4");
        s.holds(33, "a STORE (0 to 40)", WHOLE, "see(1,0)=1 see(1,40)=2 see(1,1)=3 see(1,39)=4 count(0)=4");
        s.holds(33, "a STORE above CAP can be SEEN", "granary 5 0 0;", "see(1,40)=1 see(1,6)=2");
        s.holds(33, "SEEN (6)", WHOLE, "see(1,1)=1 see(1,1)=2 see(1,1)=3 see(1,1)=4 see(1,1)=5 see(1,1)=6 count(0)=6");
        s.holds(33, "FULL", WHOLE, "see(1,1)*6=6 see(1,1)=FULL see(8,40)=FULL see(2,0)=FULL count(0)=6");
        s.holds(33, "FULL, but BAD is the first that fits", WHOLE, "see(1,1)*6 see(0,1)=BAD see(9,1)=BAD see(1,-1)=BAD "
            + "see(1,41)=BAD see(1,1)=FULL");
        s.holds(33, "one can be SEEN again where one was forgotten", WHOLE, "see(1,1)*6 forget(5)=6 see(2,2)=6 "
            + "see(2,2)=FULL");
        s.holds(33, "BAD: y", WHOLE, RICH + "see(0,1)=BAD see(9,1)=BAD see(-1,1)=BAD see(MIN,1)=BAD see(MAX,1)=BAD "
            + "count(0)=2");
        s.holds(33, "BAD: a STORE", WHOLE, RICH + "see(1,-1)=BAD see(1,41)=BAD see(8,MIN)=BAD see(8,MAX)=BAD count(0)=2");
    }

    private static void forget(Script s) {
        s.holds(34, "how many there were", WHOLE, "see(1,1)*3=3 forget(3)=3 forget(2)=3 forget(0)=2 forget(0)=0 "
            + "count(0)=0");
        s.holds(34, "the first n alone", "land 9 0;dream f 1;", "see(1,9) see(2,8) see(3,7) fits()=0 forget(2)=3 "
            + "fits()=0 "
            + "forget(1)=2 fits()=1 see(2,9)=2 fits()=1");
        s.holds(34, "of six", WHOLE, "see(1,1)*6 forget(7)=BAD forget(6)=6 forget(5)=6 forget(6)=BAD count(0)=5");
        s.holds(34, "of none", WHOLE, "forget(0)=0 forget(1)=BAD forget(-1)=BAD");
        s.holds(34, "BAD: below 0", WHOLE, RICH + "forget(-1)=BAD forget(MIN)=BAD count(0)=2");
        s.holds(34, "BAD: more than there are", WHOLE, RICH + "forget(3)=BAD forget(6)=BAD forget(MAX)=BAD count(0)=2");
    }

    /** A fat YEAR brings 1, a lean one nothing; all is kept. */
    private static void behindYearSeven(Script s) {
        String text = "land 1 0;dream ffffffff 1;";
        s.holds(0, "behind y YEARS: 1 to 8, YEAR is 0", text, "see(1,1) see(7,7) see(8,8) fits()=1 see(8,7) fits()=0");
        s.holds(0, "from now on: YEAR is 1", text, "see(1,1) fits()=1 year(1) fits()=0 forget(0) see(1,2) see(6,7) "
            + "fits()=1");
        s.holds(0, "behind YEAR 7 STORE stays as it is: YEAR is 1", text, "year(1) see(7,8) see(8,8) fits()=1 see(8,9) "
            + "fits()=0");
        s.holds(0, "behind YEAR 7 STORE stays as it is: YEAR is 7", text, SEVEN_LEAN + "see(1,1) see(2,1) see(8,1) "
            + "fits()=1 "
            + "stewards(0,1)=0 see(1,0) fits()=0");
        s.holds(0, "behind YEAR 7 STORE stays as it is: YEAR is 8", text, SEVEN_LEAN + "go(1,1) see(1,1) see(8,1) "
            + "fits()=1 "
            + "stewards(0,0)=50 hoards(0)=1023 see(8,0) fits()=0 stewards(0,0)=0 hoards(0)=0");
        s.holds(0, "nothing is stolen behind YEAR 7", text, SEVEN_LEAN + "fill(5) see(1,4) see(8,4) hoards(0)=0b100");
    }

    private static void stewards(Script s) {
        String text = "land 9 0;land 9 0;land 9 0;land 9 0;dream f 1;dream l 1;people 1 0;";
        s.holds(35, "all KINDS, v, nothing being SEEN", text, "stewards(0,0)=50 stewards(0,1)=0 stewards(1,0)=50");
        // 35 are LEFT
        s.holds(35, "the last of all alone", text, "see(1,9) stewards(0,0)=1 stewards(0,1)=49");
        s.holds(35, "the first of all, whatever v; part 0; level 9", text, "see(1,35) stewards(0,0)=12 stewards(0,1)=0");
        s.holds(35, "the least of those who keep nothing", text, "see(1,0) stewards(0,0)=12 stewards(0,1)=20");
        s.holds(35, "part by 9", text, "see(1,3) stewards(0,0)=3 stewards(0,1)=18");
        s.holds(35, "NONE (1): none", text, "see(1,36) stewards(0,0)=0 stewards(0,1)=NONE");
        s.holds(35, "NONE (1): two that can not both be", text, "see(1,9) see(1,8) stewards(0,0)=0 stewards(0,1)=NONE");
        s.holds(35, "by a READING: nothing is LEFT by the other", text, "see(1,0) stewards(1,0)=50 forget(0) see(1,1) "
            + "stewards(1,0)=0 stewards(1,1)=NONE stewards(0,1)=41");
        s.holds(35, "whether it CAN BE or not", text, "year(0) see(1,0) stewards(0,0)=50 stewards(1,0)=50");
        s.holds(35, "all that is SEEN, the last of six, too", text, "see(1,9)*5=5 stewards(0,0)=1 see(1,10)=6 "
            + "stewards(0,0)=0");
        s.holds(35, "BAD: no such READING", WHOLE, RICH + "stewards(3,0)=BAD stewards(-1,1)=BAD stewards(4,0)=BAD "
            + "stewards(MIN,0)=BAD stewards(MAX,1)=BAD");
        s.holds(35, "BAD: what", WHOLE, RICH + "stewards(0,-1)=BAD stewards(0,2)=BAD stewards(0,MIN)=BAD "
            + "stewards(0,MAX)=BAD");
        s.holds(35, "NONE, but BAD is the first that fits", text, "see(1,36) stewards(0,1)=NONE stewards(2,1)=BAD "
            + "stewards(0,2)=BAD");
    }

    private static void hoards(Script s) {
        String text = "land 9 0;dream f 1;";
        s.holds(36, "how much (0 to 9; bits), nothing being SEEN", text, "hoards(0)=1023");
        s.holds(36, "nothing", text, "see(1,9) hoards(0)=1");
        s.holds(36, "9", text, "see(1,0) hoards(0)=0b1000000000");
        s.holds(36, "it would be below 0", text, "see(1,10) hoards(0)=0");
        s.holds(36, "it would be above 9", "land 9 0;land 9 0;dream f 1;", "see(1,8) hoards(0)=0 see(1,9) hoards(0)=0 "
            + "forget(0) "
            + "see(1,9) hoards(0)=0b1000000000");
        s.holds(36, "0 at least", text, "see(2,0) hoards(0)=0b1111100000 forget(0) see(2,1) hoards(0)=0b10000 forget(0) "
            + "see(8,0) "
            + "hoards(0)=0b1111111100");
        s.holds(36, "behind all else: behind ROT", "land 9 0;dream f 1;granary 40 2 0;", "see(1,3) hoards(0)=0b100");
        s.holds(36, "behind all else: behind what is eaten", "land 9 0;dream f 1;people 4 0;", "see(1,3) "
            + "hoards(0)=0b100");
        s.holds(36, "by the STEWARD", text, "steward(3,0) see(1,0) hoards(0)=1023 see(1,1) hoards(0)=0");
        s.holds(36, "whether it CAN BE or not", text, "year(0) see(1,0) hoards(0)=1023");
        s.holds(36, "BAD", WHOLE, RICH + "hoards(-1)=BAD hoards(3)=BAD hoards(4)=BAD hoards(MIN)=BAD hoards(MAX)=BAD");
        s.holds(36, "BAD: no READINGS", "land 1 1;", "hoards(0)=BAD");
    }

    private static void fits(Script s) {
        String four = "land 5 1;dream f 1;dream lf 1;dream ff 1;dream lllllllf 2;";
        s.holds(37, "no READINGS", "land 1 1;", "fits()=0 see(1,1) fits()=0");
        s.holds(37, "bits: all, nothing being SEEN", four, "fits()=15");
        s.holds(37, "bits: the last of four", four, "see(2,2) fits()=0b1000");
        s.holds(37, "bits: the first of four", four, "see(1,5) see(2,6) fits()=1");
        s.holds(37, "bits: none", four, "see(1,0) fits()=0");
        s.holds(37, "the last YEAR", four, "see(8,12) fits()=0b1011 forget(0) see(8,16) fits()=0b100");
        s.holds(37, "by the STEWARD", four, "steward(3,5) see(1,0) see(8,0) fits()=15");
        s.holds(37, "whether they CAN BE or not", four, "go(0,0) go(0,0) go(1,0) can()=0 fits()=15 see(8,5) "
            + "fits()=0b0111 "
            + "forget(0) see(8,9) fits()=0b1000");
    }
}
