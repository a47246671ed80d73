/** The boundary cases of promises 10 to 18, sentence by sentence: what is changed. */
public final class BoundsChangeTest {
    private static final String RICH = Script.RICH;
    private static final String WHOLE = Script.WHOLE;

    public static void main(String[] args) {
        Due due = new Due();
        Script script = new Script(due);
        till(script);
        weigh(script);
        need(script);
        hunger(script);
        cap(script);
        rot(script);
        fill(script);
        price(script);
        steward(script);
        script.covers(10, 18);
        due.finish();
    }

    private static void till(Script s) {
        s.holds(10, "becomes v (0 to 9): what it was", WHOLE, "till(0,0,0)=2 till(0,0,9)=0 till(0,0,1)=9 land(0,0)=1 "
            + "till(1,1,9)=6 till(1,1,0)=9 land(1,1)=0");
        s.holds(10, "LEAN (0), FAT (1), of this LAND alone", WHOLE, "till(1,0,7)=1 land(0,0)=2 land(0,1)=9 land(1,0)=7 "
            + "land(1,1)=6 till(0,1,3)=9 land(0,0)=2 land(0,1)=3 land(1,0)=7 land(1,1)=6 bears(0)=9 bears(1)=9");
        s.holds(10, "the last of four", "land 1 1;land 1 1;land 1 1;land 1 1;", "till(3,0,9)=1 till(3,1,8)=1 "
            + "till(4,0,1)=BAD "
            + "bears(0)=12 bears(1)=11");
        s.holds(10, "BAD: no such LAND", WHOLE, RICH + "till(2,0,1)=BAD till(-1,1,1)=BAD till(4,0,1)=BAD "
            + "till(MIN,0,1)=BAD "
            + "till(MAX,0,1)=BAD");
        s.holds(10, "BAD: no LANDS", "", "till(0,0,1)=BAD till(-1,0,1)=BAD");
        s.holds(10, "BAD: what", WHOLE, RICH + "till(0,2,1)=BAD till(0,-1,1)=BAD till(0,MIN,1)=BAD till(0,MAX,1)=BAD");
        s.holds(10, "BAD: v below 0", WHOLE, RICH + "till(0,0,-1)=BAD till(1,1,-1)=BAD till(0,1,MIN)=BAD");
        s.holds(10, "BAD: v above 9", WHOLE, RICH + "till(0,0,10)=BAD till(1,1,10)=BAD till(0,1,MAX)=BAD");
    }

    private static void weigh(Script s) {
        s.holds(11, "become v (1 to 9): what they were", WHOLE, "weigh(0,1)=3 weigh(0,9)=1 weigh(0,5)=9 reading(0,0)=5");
        s.holds(11, "of this READING alone", WHOLE, "weigh(1,8)=2 reading(0,0)=3 reading(1,0)=8 reading(2,0)=1 can()=7");
        s.holds(11, "also of one that can not be", WHOLE, "year(0) weigh(0,4)=3 reading(0,0)=4 reading(0,1)=0");
        s.holds(11, "the last of four", "dream f 1;dream f 1;dream f 1;dream f 2;", "weigh(3,9)=2 weigh(4,1)=BAD "
            + "reading(3,0)=9");
        s.holds(11, "BAD: no such READING", WHOLE, RICH + "weigh(3,1)=BAD weigh(-1,1)=BAD weigh(4,1)=BAD "
            + "weigh(MIN,1)=BAD "
            + "weigh(MAX,1)=BAD");
        s.holds(11, "BAD: no READINGS", "", "weigh(0,1)=BAD weigh(-1,1)=BAD");
        s.holds(11, "BAD: v below 1", WHOLE, RICH + "weigh(0,0)=BAD weigh(0,-1)=BAD weigh(2,MIN)=BAD");
        s.holds(11, "BAD: v above 9", WHOLE, RICH + "weigh(0,10)=BAD weigh(2,MAX)=BAD");
    }

    private static void need(Script s) {
        s.holds(12, "becomes v (0 to 40): what it was", WHOLE, "need(0)=8 need(40)=0 need(1)=40 need(39)=1 rule(2)=39 "
            + "rule(3)=12");
        s.holds(12, "BAD: below 0", WHOLE, RICH + "need(-1)=BAD need(MIN)=BAD rule(2)=8");
        s.holds(12, "BAD: above 40", WHOLE, RICH + "need(41)=BAD need(MAX)=BAD rule(2)=8");
    }

    private static void hunger(Script s) {
        s.holds(13, "becomes v (0 to 20): what it was", WHOLE, "hunger(0)=12 hunger(20)=0 hunger(1)=20 hunger(19)=1 "
            + "rule(3)=19 rule(2)=8");
        s.holds(13, "BAD: below 0", WHOLE, RICH + "hunger(-1)=BAD hunger(MIN)=BAD rule(3)=12");
        s.holds(13, "BAD: above 20", WHOLE, RICH + "hunger(21)=BAD hunger(40)=BAD hunger(MAX)=BAD rule(3)=12");
    }

    private static void cap(Script s) {
        s.holds(14, "becomes v (0 to 40): what it was", WHOLE, "cap(40)=20 cap(4)=40 cap(39)=4 rule(4)=39 rule(6)=4");
        s.holds(14, "becomes 0, STORE being 0", "", "cap(0)=40 cap(40)=0 cap(1)=40 rule(4)=1");
        s.holds(14, "BAD: below 0", WHOLE, RICH + "cap(-1)=BAD cap(MIN)=BAD rule(4)=20");
        s.holds(14, "BAD: below 0, STORE being 0", "", "cap(-1)=BAD rule(4)=40");
        s.holds(14, "BAD: above 40", WHOLE, RICH + "cap(41)=BAD cap(MAX)=BAD rule(4)=20");
        s.holds(14, "STATE: STORE is more", WHOLE, RICH + "cap(3)=STATE cap(0)=STATE rule(4)=20 rule(6)=4");
        s.holds(14, "STATE: STORE is more by 1", "granary 40 0 40;", "cap(39)=STATE cap(40)=40 cap(0)=STATE cap(-1)=BAD");
        s.holds(14, "STORE is as much", WHOLE, RICH + "cap(4)=20 rule(4)=4 cap(3)=STATE fill(3)=4 cap(3)=4");
    }

    private static void rot(Script s) {
        s.holds(15, "becomes v (0, 2 to 9): what it was", WHOLE, "rot(0)=5 rot(2)=0 rot(9)=2 rot(3)=9 rot(8)=3 "
            + "rule(5)=8");
        s.holds(15, "BAD: 1", WHOLE, RICH + "rot(1)=BAD rule(5)=5");
        s.holds(15, "BAD: below 0", WHOLE, RICH + "rot(-1)=BAD rot(-2)=BAD rot(MIN)=BAD rule(5)=5");
        s.holds(15, "BAD: above 9", WHOLE, RICH + "rot(10)=BAD rot(MAX)=BAD rule(5)=5");
    }

    private static void fill(Script s) {
        s.holds(16, "becomes v: what it was", WHOLE, "fill(0)=4 fill(20)=0 fill(1)=20 fill(19)=1 rule(6)=19 rule(4)=20");
        s.holds(16, "40 at most", "", "fill(40)=0 fill(41)=BAD fill(39)=40 rule(6)=39");
        s.holds(16, "BAD: more than CAP", WHOLE, RICH + "fill(21)=BAD fill(40)=BAD fill(41)=BAD fill(MAX)=BAD rule(6)=4");
        s.holds(16, "BAD: more than CAP, which is 0", "granary 0 0 0;", "fill(1)=BAD fill(0)=0 fill(-1)=BAD");
        s.holds(16, "BAD: more than CAP, which is another now", WHOLE, "cap(6)=20 fill(7)=BAD fill(6)=4 cap(8)=6 "
            + "fill(8)=6");
        s.holds(16, "BAD: below 0", WHOLE, RICH + "fill(-1)=BAD fill(MIN)=BAD rule(6)=4");
        s.holds(16, "no YEAR goes", WHOLE, RICH + "fill(20)=4 rule(11)=1 rule(12)=6 rule(13)=0 count(5)=1");
    }

    private static void price(Script s) {
        s.holds(17, "in a fat YEAR (1), v 0 to 9: what it was", WHOLE, "price(1,0)=1 price(1,9)=0 price(1,8)=9 rule(7)=8 "
            + "rule(8)=6");
        s.holds(17, "in a lean YEAR (0), v 0 to 9: what it was", WHOLE, "price(0,0)=6 price(0,9)=0 price(0,8)=9 "
            + "rule(8)=8 "
            + "rule(7)=1");
        s.holds(17, "BAD: fat", WHOLE, RICH + "price(-1,1)=BAD price(2,1)=BAD price(MIN,1)=BAD price(MAX,1)=BAD");
        s.holds(17, "BAD: v below 0", WHOLE, RICH + "price(0,-1)=BAD price(1,-1)=BAD price(1,MIN)=BAD");
        s.holds(17, "BAD: v above 9", WHOLE, RICH + "price(0,10)=BAD price(1,10)=BAD price(0,MAX)=BAD");
    }

    private static void steward(Script s) {
        s.holds(18, "of a KIND (0 to 4): of which KIND he was", WHOLE, "steward(0,1)=2 steward(1,1)=0 steward(2,1)=1 "
            + "steward(3,1)=2 steward(4,1)=3 steward(4,2)=4 rule(9)=4 rule(10)=2");
        s.holds(18, "with v (0 to 9)", WHOLE, "steward(2,0)=2 rule(10)=0 steward(2,9)=2 rule(10)=9");
        s.holds(18, "BAD: KIND", WHOLE, RICH + "steward(-1,1)=BAD steward(5,1)=BAD steward(MIN,1)=BAD "
            + "steward(MAX,1)=BAD");
        s.holds(18, "BAD: v below 0", WHOLE, RICH + "steward(0,-1)=BAD steward(4,-1)=BAD steward(3,MIN)=BAD");
        s.holds(18, "BAD: v above 9", WHOLE, RICH + "steward(0,10)=BAD steward(3,10)=BAD steward(4,MAX)=BAD");
    }
}
