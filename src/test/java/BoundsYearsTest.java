/** The boundary cases of promises 19 to 25 and 38, sentence by sentence: years, readings, years by a seed. */
public final class BoundsYearsTest {
    private static final String RICH = Script.RICH;
    private static final String WHOLE = Script.WHOLE;
    private static final String SEVEN_LEAN = "go(0,0) go(0,0) go(0,0) go(0,0) go(0,0) go(0,0) go(0,0) ";

    public static void main(String[] args) {
        Due due = new Due();
        Script script = new Script(due);
        yearsOfTerms(script);
        go(script);
        goKept(script);
        year(script);
        keeps(script);
        ahead(script);
        when(script);
        can(script);
        fat(script);
        drift(script);
        script.covers(19, 25);
        script.covers(38, 38);
        due.finish();
    }

    /** What a YEAR does, at the edges of each of its words. */
    private static void yearsOfTerms(Script s) {
        s.holds(0, "EATEN is NEED: FOOD is as much", "land 5 3;people 8 0;granary 40 0 5;", "go(0,0)=0 rule(6)=0 "
            + "rule(12)=0 "
            + "rule(13)=0");
        s.holds(0, "EATEN is all FOOD: FOOD is less by 1", "land 5 3;people 9 0;granary 40 0 5;", "go(0,0)=1 rule(13)=1 "
            + "rule(12)=0");
        s.holds(0, "FOOD is more by 1", "land 5 3;people 7 0;granary 40 0 5;price 2 3;", "go(0,0)=0 rule(12)=3 "
            + "rule(13)=0");
        s.holds(0, "no FOOD: all starve", "people 40 0;", "go(1,0)=40 go(0,0)=40 rule(13)=80 rule(6)=0");
        s.holds(0, "NEED 0: all is LEFT", "land 9 1;price 3 7;", "go(1,0)=0 rule(12)=27 go(0,0)=0 rule(12)=34");
        s.holds(0, "PRICE 0", "land 9 1;price 0 0;", "go(1,0) go(0,0) rule(12)=0");
        s.holds(0, "what is KEPT is not sold", "land 9 1;price 3 7;", "go(1,9)=0 rule(12)=0 rule(6)=9 go(0,9)=0 "
            + "rule(12)=7");
        s.holds(0, "ROT 0: nothing", "land 9 1;granary 40 0 0;", "go(1,9) rule(6)=9");
        s.holds(0, "ROT: less than ROT is KEPT", "land 9 1;granary 40 5 0;", "go(1,4) rule(6)=4");
        s.holds(0, "ROT: as much as ROT is KEPT", "land 9 1;granary 40 5 0;", "go(1,5) rule(6)=4");
        s.holds(0, "ROT, down", "land 9 1;granary 40 5 0;", "go(1,9) rule(6)=8");
        s.holds(0, "ROT 2: half of it", "land 9 1;granary 40 2 0;", "go(1,9) rule(6)=5 go(1,1) rule(6)=1 go(1,2) "
            + "rule(6)=1");
        s.holds(0, "ROT 9: of 40", "land 9 1;granary 40 9 40;", "go(1,40) rule(6)=36 go(1,9) rule(6)=8 go(1,8) "
            + "rule(6)=8");
        s.holds(0, "KEPT is no more than CAP, STORE is less by ROT", "land 9 1;granary 10 2 10;", "go(1,11)=BAD "
            + "go(1,10)=0 "
            + "rule(6)=5");
        s.holds(0, "the greatest YEAR", "land 9 9;land 9 9;land 9 9;land 9 9;granary 40 0 40;price 9 9;", "go(1,0)=0 "
            + "rule(12)=684 go(0,36) rule(12)=684 go(0,0) rule(12)=1332");
    }

    private static void go(Script s) {
        s.holds(19, "lean (0) or fat (1)", "land 9 2;", "go(0,0)=0 count(5)=0 rule(12)=2 go(1,0)=0 count(5)=1 "
            + "rule(12)=11");
        s.holds(19, "how many STARVED in it, not so far", "people 5 0;", "go(0,0)=5 need(3) go(1,0)=3 rule(13)=8");
        s.holds(19, "BAD: fat", WHOLE, RICH + "go(-1,0)=BAD go(2,0)=BAD go(MIN,0)=BAD go(MAX,0)=BAD rule(11)=1");
        s.holds(19, "FULL: YEAR is 8", "land 9 2;", SEVEN_LEAN + "rule(11)=7 go(1,0)=0 rule(11)=8 go(0,0)=FULL "
            + "go(1,0)=FULL go(1,9)=FULL rule(11)=8 rule(12)=23 count(5)=1");
        s.holds(19, "FULL, but BAD is the first that fits", "land 9 2;", SEVEN_LEAN + "go(1,0) go(2,0)=BAD go(-1,0)=BAD "
            + "go(0,-1)=BAD go(0,3)=BAD go(0,2)=FULL go(1,10)=BAD");
        s.holds(19, "THE PAST has each of eight YEARS", "dream flflflfl 1;dream lflflflf 1;", "go(1,0) go(0,0) go(1,0) "
            + "go(0,0) "
            + "go(1,0) go(0,0) go(1,0) can()=1 go(0,0) can()=1 count(5)=4");
    }

    private static void goKept(Script s) {
        // a fat YEAR: 4 and 15 are FOOD, 8 are EATEN, 11 LEFT
        s.holds(19, "so much being KEPT: 0", WHOLE, "go(1,0)=0 rule(6)=0 rule(12)=11");
        s.holds(19, "so much being KEPT: all that is LEFT", WHOLE, "go(1,11)=0 rule(6)=9 rule(12)=0");
        s.holds(19, "BAD: more than is LEFT", WHOLE, "keep(0) see(1,1) go(1,12)=BAD go(1,13)=BAD go(1,20)=BAD "
            + "go(1,MAX)=BAD "
            + "rule(11)=0");
        s.holds(19, "BAD: more than is LEFT, which is less in a lean YEAR", WHOLE, RICH + "go(0,1)=BAD go(0,0)=1");
        s.holds(19, "BAD: more than is LEFT, which is 0", "land 3 3;people 3 0;", "go(1,1)=BAD go(0,1)=BAD go(1,0)=0");
        s.holds(19, "BAD: more than is LEFT, all having starved", "people 3 0;", "go(1,1)=BAD go(1,0)=3");
        s.holds(19, "so much being KEPT: as CAP", WHOLE, "cap(10) go(1,10)=0 rule(6)=8 rule(12)=1");
        s.holds(19, "BAD: more than CAP", WHOLE, "cap(10) go(1,11)=BAD go(1,12)=BAD rule(11)=0 go(1,10)=0");
        s.holds(19, "BAD: more than CAP, which is 40", "land 9 9;land 9 9;granary 40 0 40;", "go(1,41)=BAD go(1,40)=0 "
            + "rule(6)=40 rule(12)=18");
        s.holds(19, "BAD: more than CAP, which is 0", "land 9 9;granary 0 0 0;", "go(1,1)=BAD go(1,0)=0 rule(12)=9");
        s.holds(19, "BAD: below 0", WHOLE, RICH + "go(1,-1)=BAD go(0,-1)=BAD go(1,MIN)=BAD rule(11)=1");
    }

    private static void year(Script s) {
        s.holds(20, "lean (0) or fat (1)", WHOLE, "year(0)=1 count(5)=0 rule(6)=0 year(1)=0 count(5)=1 rule(6)=6");
        s.holds(20, "by the STEWARD: 8 of 11 are KEPT", WHOLE, "year(1)=0 rule(6)=7 rule(12)=3 rule(11)=1");
        s.holds(20, "how many STARVED in it, not so far", "people 5 0;", "year(0)=5 need(3) year(1)=3 rule(13)=8");
        s.holds(20, "BAD", WHOLE, RICH + "year(-1)=BAD year(2)=BAD year(MIN)=BAD year(MAX)=BAD rule(11)=1");
        s.holds(20, "FULL: YEAR is 8", "land 9 2;steward none 0;", SEVEN_LEAN + "year(1)=0 rule(11)=8 year(0)=FULL "
            + "year(1)=FULL "
            + "rule(11)=8 rule(12)=23 count(5)=1");
        s.holds(20, "FULL, but BAD is the first that fits", "land 9 2;", SEVEN_LEAN + "year(1) year(2)=BAD year(-1)=BAD "
            + "year(1)=FULL");
        s.holds(20, "he keeps no more than CAP", "land 9 9;granary 5 0 5;", "year(1)=0 rule(6)=5 rule(12)=9");
    }

    private static void keeps(Script s) {
        s.holds(21, "so much LEFT (0 to 99)", "", "keeps(0)=0 keeps(1)=1 keeps(39)=39 keeps(40)=40 keeps(98)=40 "
            + "keeps(99)=40");
        s.holds(21, "BAD: below 0", WHOLE, RICH + "keeps(-1)=BAD keeps(MIN)=BAD");
        s.holds(21, "BAD: above 99", WHOLE, RICH + "keeps(100)=BAD keeps(MAX)=BAD");
        s.holds(21, "all, whatever v", "steward all 9;", "keeps(0)=0 keeps(7)=7 keeps(40)=40 keeps(41)=40 steward(0,0) "
            + "keeps(7)=7");
        s.holds(21, "part: v and 1, down", "steward part 0;", "keeps(7)=7 keeps(99)=40 steward(1,1) keeps(0)=0 "
            + "keeps(1)=0 "
            + "keeps(2)=1 keeps(3)=1 keeps(99)=40 steward(1,9) keeps(9)=0 keeps(10)=1 keeps(19)=1 keeps(20)=2 "
            + "keeps(99)=9");
        s.holds(21, "level: v times 4, or all", "steward level 0;", "keeps(0)=0 keeps(99)=0 steward(2,1) keeps(3)=3 "
            + "keeps(4)=4 "
            + "keeps(5)=4 keeps(99)=4 steward(2,9) keeps(35)=35 keeps(36)=36 keeps(37)=36 keeps(99)=36");
        s.holds(21, "none: nothing, whatever v", "steward none 0;", "keeps(0)=0 keeps(99)=0 steward(3,9) keeps(99)=0 "
            + "keeps(1)=0");
        s.holds(21, "need: NEED times v, or all", "people 3 0;steward need 0;", "keeps(99)=0 steward(4,1) keeps(2)=2 "
            + "keeps(3)=3 "
            + "keeps(4)=3 steward(4,9) keeps(26)=26 keeps(27)=27 keeps(28)=27 keeps(99)=27 need(0) keeps(99)=0");
        s.holds(21, "never more than CAP: all", "granary 5 0 0;steward all 1;", "keeps(5)=5 keeps(6)=5 keeps(4)=4");
        s.holds(21, "never more than CAP: part", "granary 5 0 0;steward part 1;", "keeps(10)=5 keeps(11)=5 keeps(12)=5 "
            + "keeps(9)=4");
        s.holds(21, "never more than CAP: level", "granary 5 0 0;steward level 2;", "keeps(5)=5 keeps(8)=5 keeps(99)=5 "
            + "keeps(4)=4");
        s.holds(21, "never more than CAP: need", "granary 5 0 0;people 3 0;steward need 2;", "keeps(5)=5 keeps(6)=5 "
            + "keeps(99)=5 "
            + "keeps(4)=4");
        s.holds(21, "never more than CAP: need, at most", "people 40 0;steward need 9;", "keeps(99)=40 cap(0) "
            + "keeps(99)=0");
        s.holds(21, "LEFT is told, STORE and YEAR are not looked at", "granary 9 0 9;", "keeps(3)=3 fill(0) keeps(3)=3");
    }

    private static void ahead(Script s) {
        s.holds(22, "n YEARS (0 to 8): 0", WHOLE, RICH + "ahead(0,0,0)=4 ahead(0,0,1)=0 ahead(0,0,2)=0");
        s.holds(22, "n YEARS (0 to 8): 1, 8", "land 3 1;dream lf 1;people 2 0;price 1 1;steward none "
            + "0;", "ahead(0,1,2)=1 "
            + "ahead(0,1,1)=0 ahead(0,2,1)=1 ahead(0,8,2)=7 ahead(0,7,2)=6 ahead(0,8,1)=1");
        s.holds(22, "none behind YEAR 7: YEAR is 7", "land 3 1;dream l 1;people 2 0;steward none 0;", SEVEN_LEAN
            + "ahead(0,0,2)=0 ahead(0,1,2)=1 ahead(0,2,2)=1 ahead(0,8,2)=1");
        s.holds(22, "none behind YEAR 7: YEAR is 8", "land 3 1;dream l 1;people 2 0;granary 40 0 "
            + "9;", SEVEN_LEAN + "go(0,0) "
            + "fill(7) ahead(0,1,2)=0 ahead(0,8,2)=0 ahead(0,8,1)=0 ahead(0,8,0)=7 ahead(0,0,0)=7");
        s.holds(22, "from now on: not the first YEARS of the READING", "land 3 1;dream fl 1;steward none 0;", "go(1,0) "
            + "ahead(0,1,1)=1 ahead(0,2,1)=2");
        s.holds(22, "MONEY, STARVED in them, not so far", "land 9 0;dream fl 1;people 2 0;steward none 0;", "go(1,0) "
            + "rule(12)=7 "
            + "ahead(0,0,1)=0 ahead(0,1,1)=0 go(0,0)=2 ahead(0,1,2)=2 ahead(0,0,2)=0");
        s.holds(22, "whether it CAN BE or not", "land 3 1;dream ff 1;dream ll 1;steward none 0;", "go(1,0) "
            + "ahead(1,1,1)=1 "
            + "ahead(0,1,1)=3 go(0,0) can()=0 ahead(0,1,1)=1 ahead(1,6,1)=6");
        s.holds(22, "BAD: no such READING", WHOLE, RICH + "ahead(3,1,0)=BAD ahead(-1,1,0)=BAD ahead(4,0,0)=BAD "
            + "ahead(MIN,0,0)=BAD "
            + "ahead(MAX,0,0)=BAD");
        s.holds(22, "BAD: n", WHOLE, RICH + "ahead(0,-1,0)=BAD ahead(0,9,0)=BAD ahead(0,MIN,1)=BAD ahead(0,MAX,2)=BAD");
        s.holds(22, "BAD: what", WHOLE, RICH + "ahead(0,1,-1)=BAD ahead(0,1,3)=BAD ahead(0,1,MIN)=BAD "
            + "ahead(0,1,MAX)=BAD");
    }

    private static void when(Script s) {
        String bare = "people 2 0;steward none 0;";
        s.holds(23, "YEAR to 7: in this one", "land 2 1;dream lf 1;" + bare, "when(0)=0 go(0,0)=1 when(0)=2");
        s.holds(23, "YEAR to 7: in the last one", "land 2 1;dream fffffffl 1;" + bare, "when(0)=7");
        s.holds(23, "YEAR to 7: YEAR is 7", "land 2 1;dream fffffffl 1;dream ffffffff "
            + "1;" + bare, SEVEN_LEAN + "when(0)=7 "
            + "when(1)=NONE");
        s.holds(23, "NONE: in none", "land 2 1;dream ffffffff 1;" + bare, "when(0)=NONE need(3) when(0)=0");
        s.holds(23, "NONE: YEAR is 8", "land 2 1;dream l 1;" + bare, SEVEN_LEAN + "when(0)=7 go(0,0)=1 when(0)=NONE");
        s.holds(23, "somebody: one is enough", "land 5 1;dream f 1;granary 40 0 0;people 2 0;", "when(0)=4 need(1) "
            + "when(0)=NONE");
        s.holds(23, "whether it CAN BE or not", "land 2 1;dream lf 1;dream ffffffff 1;" + bare, "go(0,0) when(1)=NONE "
            + "when(0)=2");
        s.holds(23, "BAD", WHOLE, RICH + "when(-1)=BAD when(3)=BAD when(4)=BAD when(MIN)=BAD when(MAX)=BAD");
        s.holds(23, "BAD: no READINGS", "land 1 1;", "when(0)=BAD");
    }

    private static void can(Script s) {
        s.holds(24, "none: there are none", "", "can()=0 year(1) can()=0");
        s.holds(24, "bits: all of four", "dream f 1;dream l 1;dream f 1;dream fl 1;", "can()=15 year(1) can()=0b1101 "
            + "year(0) "
            + "can()=0b1101 year(1) can()=0");
        s.holds(24, "bits: the last of four", "dream f 1;dream f 1;dream f 1;dream l 1;", "year(0) can()=0b1000 "
            + "count(4)=1");
        s.holds(24, "to the last YEAR", "dream lllllllf 1;dream l 2;", SEVEN_LEAN + "can()=3 go(1,0) can()=1");
    }

    private static void fat(Script s) {
        String four = "dream f 9;dream lf 6;dream ffl 3;dream lllllllf 2;";
        s.holds(25, "YEAR y (0 to 7)", four, "fat(0,*)=3/5 fat(1,*)=9/20 fat(2,*)=0/1 fat(6,*)=0/1 fat(7,*)=1/10");
        s.holds(25, "it is sure", "dream f 9;dream ff 9;", "fat(0,*)=1/1 fat(1,*)=1/2 fat(2,*)=0/1");
        s.holds(25, "a YEAR that went", four, "go(1,0) fat(0,*)=1/1 fat(1,*)=1/4 go(0,0) fat(1,*)=0/1 fat(0,*)=1/1");
        s.holds(25, "YEAR is 8", "dream lllllllf 2;", SEVEN_LEAN + "fat(7,*)=1/1 go(1,0) fat(7,*)=1/1 fat(0,*)=0/1");
        s.holds(25, "BAD: y", four, "fat(-1,0)=BAD fat(8,0)=BAD fat(8,1)=BAD fat(MIN,0)=BAD fat(MAX,1)=BAD");
        s.holds(25, "BAD: what", four, "fat(0,-1)=BAD fat(0,2)=BAD fat(0,MIN)=BAD fat(0,MAX)=BAD");
        s.holds(25, "STATE: no READING CAN BE", "dream f 1;", "go(0,0) fat(0,0)=STATE fat(0,1)=STATE fat(7,0)=STATE");
        s.holds(25, "STATE: no READINGS", "", "fat(0,0)=STATE fat(7,1)=STATE");
        s.holds(25, "STATE, but BAD is the first that fits", "", "fat(8,0)=BAD fat(-1,0)=BAD fat(0,2)=BAD");
    }

    /** In YEAR 7 one YEAR is drawn: MONEY tells whether it was fat (9) or lean (2). */
    private static void drift(Script s) {
        String one = "land 9 2;steward none 0;";
        s.holds(38, "below n: 0 is drawn", one, SEVEN_LEAN + "drift(0,0,1)=2 drift(0,1,1)=9 drift(0,10,1)=9");
        s.holds(38, "below n: 9 is drawn", one, SEVEN_LEAN + "drift(MAX,9,1)=2 drift(MAX,10,1)=9");
        s.holds(38, "below n: 8 is drawn", one, SEVEN_LEAN + "drift(1,8,1)=2 drift(1,9,1)=9");
        s.holds(38, "bits 16 to 30, not 31: 0 is drawn", one, SEVEN_LEAN + "drift(MIN,0,1)=2 drift(MIN,1,1)=9");
        s.holds(38, "bits 16 to 30, not 31: 9 is drawn", one, SEVEN_LEAN + "drift(-1,8,1)=2 drift(-1,9,1)=2 "
            + "drift(-1,10,1)=9");
        s.holds(38, "bits 16 to 30, not 31: 4 is drawn", one, SEVEN_LEAN + "drift(7,4,1)=2 drift(7,5,1)=9");
        String half = "land 9 2;people 4 0;price 1 5;steward part 1;";
        s.holds(38, "in each YEAR the seed becomes another, with wrap-around", half, "drift(42,3,0)=6 drift(42,3,1)=9 "
            + "drift(42,3,2)=2 "
            + "drift(42,7,1)=31 drift(-12345,5,0)=8 drift(-12345,5,1)=15 drift(987654321,5,1)=19 drift(987654321,7,0)=2 "
            + "drift(-2000000000,3,0)=10 drift(-2000000000,5,1)=33 drift(-2000000000,7,2)=4 drift(1,7,1)=24");
        s.holds(38, "n 0: all are lean", one, "drift(5,0,1)=16 drift(-77,0,1)=16");
        s.holds(38, "n 10: all are fat", one, "drift(5,10,1)=72 drift(-77,10,1)=72");
        s.holds(38, "to YEAR 7: YEAR is 8", "land 9 2;people 3 0;", SEVEN_LEAN + "go(1,5) drift(1,5,0)=0 drift(1,5,1)=0 "
            + "drift(1,5,2)=5");
        s.holds(38, "STARVED in them, not so far", "people 3 0;", "go(0,0)=3 drift(1,5,0)=21 drift(1,0,0)=21");
        s.holds(38, "MONEY in them, not so far; STORE then", "land 9 2;", "go(1,0) drift(1,10,1)=23 drift(1,10,2)=40");
        s.holds(38, "BAD: n", WHOLE, RICH + "drift(1,-1,0)=BAD drift(1,11,0)=BAD drift(1,MIN,1)=BAD drift(1,MAX,2)=BAD");
        s.holds(38, "BAD: what", WHOLE, RICH + "drift(1,1,-1)=BAD drift(1,1,3)=BAD drift(1,1,MIN)=BAD "
            + "drift(1,1,MAX)=BAD");
        s.holds(38, "every seed is one", WHOLE, RICH + "drift(MIN,0,2)=0 drift(MAX,0,2)=0 drift(0,0,2)=0");
    }
}
