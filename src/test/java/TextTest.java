/** Promises 1 to 9: a new object, the tape, the text and its faults, what there is. */
public final class TextTest {
    private static final String WHOLE = "land 9 2;land 6 1;dream ffll 3;dream flff 2;people 8 12;granary 20 5 4;"
        + "price 1 6;steward level 2;";

    public static void main(String[] args) {
        Due due = new Due();
        newObject(due);
        tape(due);
        textTaken(due);
        textReplaces(due);
        textRefused(due);
        tokens(due);
        faultPlaces(due);
        faultBounds(due);
        faultsOfLines(due);
        whatThereIs(due);
        due.finish();
    }

    private static void newObject(Due due) {
        FatLean x = new FatLean();
        int[] rules = {0, 0, 0, 0, 40, 0, 0, 1, 1, 0, 0, 0, 0, 0};
        for (int what = 0; what < rules.length; what++) {
            due.is("new rule(" + what + ")", x.rule(what), rules[what]);
        }
        due.is("new land", x.land(0, 0), FatLean.BAD);
        due.is("new reading", x.reading(0, 0), FatLean.BAD);
        due.is("new fault", x.fault(), 0);
        due.is("new torn", x.torn(), 0);
        int[] counts = {0, 0, 0, FatLean.NONE, 0, 0};
        for (int what = 0; what < counts.length; what++) {
            due.is("new count(" + what + ")", x.count(what), counts[what]);
        }
        for (int k = 0; k < 4; k++) {
            due.is("new sheet has nothing", x.lay(k, 0, 0), -11);
        }
        due.is("no image 0", x.back(0), FatLean.STATE);
        due.is("no image 1", x.back(1), FatLean.STATE);
    }

    private static void tape(Due due) {
        FatLean x = new FatLean();
        due.is("feed(-1)", x.feed(-1), FatLean.BAD);
        due.is("feed(128)", x.feed(128), FatLean.BAD);
        due.is("nothing came", x.count(2), 0);
        due.is("feed(0)", x.feed(0), 1);
        due.is("feed(127)", x.feed(127), 2);
        due.is("end(3)", x.end(3), FatLean.BAD);
        due.is("end(-1)", x.end(-1), FatLean.BAD);
        due.is("end(2)", x.end(2), 2);
        due.is("end(1)", x.end(1), 2);
        due.is("bytes", x.count(2), 1);
        due.is("end(0)", x.end(0), 1);
        due.is("end(0) again", x.end(0), 0);
        for (int i = 1; i <= 160; i++) {
            due.is("feed " + i, x.feed(32), i);
        }
        due.is("feed 161", x.feed(32), FatLean.FULL);
        due.is("feed 161, bad first", x.feed(200), FatLean.BAD);
        due.is("160 stay", x.count(2), 160);
        due.is("160 blanks tell nothing", x.text(), 0);
        due.is("the tape is empty then", x.count(2), 0);
        Due.feed(x, "land 1 2;xx");
        due.is("end keeps the first", x.end(9), 11);
        due.is("and they are told", x.text(), 1);
    }

    private static void textTaken(Due due) {
        FatLean x = new FatLean();
        Due.feed(x, WHOLE);
        due.is("text()", x.text(), 8);
        due.is("fault()", x.fault(), 0);
        int[] rules = {2, 2, 8, 12, 20, 5, 4, 1, 6, 2, 2, 0, 0, 0};
        for (int what = 0; what < rules.length; what++) {
            due.is("rule(" + what + ")", x.rule(what), rules[what]);
        }
        String[] kinds = {"all", "part", "level", "none", "need"};
        for (int kind = 0; kind < kinds.length; kind++) {
            due.is(kinds[kind], Due.told("steward " + kinds[kind] + " 9;").rule(9), kind);
        }
        due.is("v", Due.told("steward none 9;").rule(10), 9);
        due.is("greatest numbers", Due.all(Due.told("people 40 20;granary 40 9 40;price 9 9;")).substring(0, 32),
            "0 0 40 20 40 9 40 9 9 0 0 0 0 0 ");
        due.is("least numbers", Due.all(Due.told("people 0 0;granary 0 0 0;price 0 0;")).substring(0, 28),
            "0 0 0 0 0 0 0 0 0 0 0 0 0 0 ");
        due.is("four lands, four dreams", Due.faultOf("land 0 0;land 1 1;land 9 9;land 3 3;dream f 1;dream l 9;"
            + "dream ffffffff 1;dream llllllll 2;"), "8/0");
    }

    private static void textReplaces(Due due) {
        FatLean x = Due.told(WHOLE);
        x.keep(0);
        x.keep(1);
        x.see(1, 1);
        x.sheet(0, 2, 3);
        x.read(0, 0, 0, 1);
        x.go(1, 2);
        x.go(0, 0);
        due.is("money is there", x.rule(12) > 0 ? 1 : 0, 1);
        due.is("some starve", x.rule(13) > 0 ? 1 : 0, 1);
        x.fill(9);
        due.is("what is ahead is not told", x.ahead(0, 0, 0), 9);
        due.is("an empty text tells all", x.text(), 0);
        due.is("all is as at first, but sheets and torn", Due.all(x),
            "0 0 0 0 40 0 0 1 1 0 0 0 0 0 |||0 0 0 3 0 0 |0 3 0");
        due.is("images are gone", x.back(0), FatLean.STATE);
        due.is("images are gone", x.back(1), FatLean.STATE);
    }

    private static void textRefused(Due due) {
        FatLean x = Due.told(WHOLE);
        x.keep(1);
        x.see(2, 3);
        x.go(1, 2);
        String before = Due.all(x);
        Due.feed(x, "land 1 1;dream f 1;people 3 3;granary 3 3 3;price 3 3;steward need 3;land 1;");
        due.is("a fault at the last sign", x.text(), -85);
        due.is("its kind", x.fault(), 2);
        due.is("the tape is empty", x.count(2), 0);
        due.is("what was told stays", Due.all(x).replace("|2 0 3", "|0 0 3"), before);
        due.is("images stay", x.back(1), 0);
        due.is("text() behind it", x.text(), 0);
        due.is("the latest text's fault", x.fault(), 0);
    }

    private static void tokens(Due due) {
        due.is("blanks", Due.faultOf("  land   9   2  ;   price 1 1 ; "), "2/0");
        due.is("no blanks but where needed", Due.faultOf("land9 2;dreamf2;people4 0;stewardall4;"), "-18/2");
        due.is("no blanks", Due.faultOf("land9 2;dream f2;people4 0;steward all4;"), "4/0");
        due.is("noughts ahead", Due.told("land 09 00;").land(0, 1), 9);
        due.is("a number too long", Due.faultOf("land 009 1;"), "-15/1");
        due.is("a number too long where none stands", Due.faultOf(" 123;"), "-11/1");
        due.is("a number too long for the last", Due.faultOf("land 1 100"), "-17/1");
        for (int c : new int[] {0, 9, 10, 13, 31, 33, 47, 58, 60, 64, 'A', 'Z', 96, 123, 127}) {
            due.is("no token " + c, Due.faultOf("land 1 " + (char) c), "-17/1");
        }
        due.is("no token behind a line", Due.faultOf("land 1 1; !"), "-20/1");
        due.is("no token at once", Due.faultOf("$"), "-10/1");
        due.is("a word at the end of a full tape", Due.faultOf(" ".repeat(156) + "land"), "-170/2");
        due.is("a number at the end of a full tape", Due.faultOf(" ".repeat(154) + "land 1"), "-170/2");
        FatLean cut = new FatLean();
        Due.feed(cut, "land 1 12");
        cut.end(8);
        due.is("what was cut off is not read", cut.text(), -18);
        due.is("no token inside a word", Due.faultOf("la-nd"), "-10/2");
        due.is("no token behind a word", Due.faultOf("land-"), "-14/1");
        due.is("no token behind a number", Due.faultOf("land 1-"), "-16/1");
    }

    private static void faultPlaces(Due due) {
        due.is("a word that begins no line", Due.faultOf("lands 1 1;"), "-10/2");
        due.is("a word that begins no line", Due.faultOf("lan 1 1;"), "-10/2");
        due.is("a word that begins no line", Due.faultOf("xand 1 1;"), "-10/2");
        due.is("a word of a and z", Due.faultOf("az"), "-10/2");
        due.is("a word of z and a", Due.faultOf("za"), "-10/2");
        due.is("a K begins no line", Due.faultOf("land 1 1;all 1;"), "-19/2");
        due.is("a number begins no line", Due.faultOf("1"), "-10/2");
        due.is("; begins no line", Due.faultOf("land 1 1;;"), "-19/2");
        due.is("a word for a number", Due.faultOf("land x 1;"), "-15/2");
        due.is("; for a number", Due.faultOf("land 1;"), "-16/2");
        due.is("a number for ;", Due.faultOf("land 1 1 1;"), "-19/2");
        due.is("a word for ;", Due.faultOf("land 1 1 land"), "-19/2");
        due.is("a number for a word of f and l", Due.faultOf("dream 1 1;"), "-16/2");
        due.is("; for a word of f and l", Due.faultOf("dream ;"), "-16/2");
        due.is("no K", Due.faultOf("steward some 1;"), "-18/2");
        due.is("no K, but begins as one", Due.faultOf("steward alls 1;"), "-18/2");
        due.is("a number for K", Due.faultOf("steward 1 1;"), "-18/2");
        due.is("the end for K", Due.faultOf("steward "), "-18/2");
        due.is("the end for a number", Due.faultOf("land 1"), "-16/2");
        due.is("the end behind blanks", Due.faultOf("land 1   "), "-19/2");
        due.is("the end for ;", Due.faultOf("price 1 1"), "-19/2");
        due.is("the end of a full tape", Due.faultOf("land 1 1" + " ".repeat(152)), "-170/2");
        due.is("the end for a word of f and l", Due.faultOf("dream"), "-15/2");
    }

    private static void faultBounds(Due due) {
        due.is("fat", Due.faultOf("land 10 0;"), "-15/3");
        due.is("lean", Due.faultOf("land 0 10;"), "-17/3");
        due.is("odds 0", Due.faultOf("dream f 0;"), "-18/3");
        due.is("odds 10", Due.faultOf("dream f 10;"), "-18/3");
        due.is("nine years", Due.faultOf("dream lllllllll 1;"), "-16/3");
        due.is("another letter", Due.faultOf("dream ffa 1;"), "-16/3");
        due.is("another letter, and too long", Due.faultOf("dream ffffffffa 1;"), "-16/3");
        due.is("need", Due.faultOf("people 41 0;"), "-17/3");
        due.is("hunger", Due.faultOf("people 40 21;"), "-20/3");
        due.is("cap", Due.faultOf("granary 41 0 0;"), "-18/3");
        due.is("rot 1", Due.faultOf("granary 9 1 0;"), "-20/3");
        due.is("rot 01", Due.faultOf("granary 9 01 0;"), "-20/3");
        due.is("rot 10", Due.faultOf("granary 9 10 0;"), "-20/3");
        due.is("rot 2", Due.faultOf("granary 9 2 0;"), "1/0");
        due.is("store above cap", Due.faultOf("granary 9 0 10;"), "-22/3");
        due.is("store as cap", Due.faultOf("granary 9 0 9;"), "1/0");
        due.is("store above all", Due.faultOf("granary 40 0 41;"), "-23/3");
        due.is("price in a fat year", Due.faultOf("price 10 0;"), "-16/3");
        due.is("price in a lean year", Due.faultOf("price 0 10;"), "-18/3");
        due.is("v", Due.faultOf("steward all 10;"), "-22/3");
        due.is("bounds ahead of what comes then", Due.faultOf("land 10 $"), "-15/3");
    }

    private static void faultsOfLines(Due due) {
        due.is("people twice", Due.faultOf("people 1 1;people 99"), "-21/4");
        due.is("granary twice", Due.faultOf("granary 1 0 1; granary $"), "-25/4");
        due.is("price twice", Due.faultOf("price 1 1;land 1 1;price"), "-29/4");
        due.is("steward twice", Due.faultOf("steward all 1;steward none 1;"), "-24/4");
        due.is("the 5th land", Due.faultOf("land 1 1;land 1 1;land 1 1;land 1 1;land 99 1;"), "-46/5");
        due.is("the 5th dream", Due.faultOf("dream f 1;dream f 1;dream f 1;dream f 1; dream $"), "-51/5");
    }

    private static void whatThereIs(Due due) {
        FatLean x = Due.told(WHOLE);
        due.is("rule(-1)", x.rule(-1), FatLean.BAD);
        due.is("rule(14)", x.rule(14), FatLean.BAD);
        due.is("land(0, 0)", x.land(0, 0), 2);
        due.is("land(0, 1)", x.land(0, 1), 9);
        due.is("land(1, 0)", x.land(1, 0), 1);
        due.is("land(1, 1)", x.land(1, 1), 6);
        due.is("land(2, 0)", x.land(2, 0), FatLean.BAD);
        due.is("land(-1, 0)", x.land(-1, 0), FatLean.BAD);
        due.is("land(0, 2)", x.land(0, 2), FatLean.BAD);
        due.is("land(0, -1)", x.land(0, -1), FatLean.BAD);
        due.is("bears(0)", x.bears(0), 3);
        due.is("bears(1)", x.bears(1), 15);
        due.is("bears(2)", x.bears(2), FatLean.BAD);
        due.is("bears(-1)", x.bears(-1), FatLean.BAD);
        due.is("odds", x.reading(0, 0), 3);
        due.is("odds", x.reading(1, 0), 2);
        int[] years = {1, 0, 1, 1, 0, 0, 0, 0};
        for (int y = 0; y < 8; y++) {
            due.is("reading 1 in year " + y, x.reading(1, 10 + y), years[y]);
        }
        due.is("reading(0, 2)", x.reading(0, 2), FatLean.BAD);
        due.is("reading(0, 9)", x.reading(0, 9), FatLean.BAD);
        due.is("reading(0, 18)", x.reading(0, 18), FatLean.BAD);
        due.is("reading(0, -1)", x.reading(0, -1), FatLean.BAD);
        due.is("reading(2, 0)", x.reading(2, 0), FatLean.BAD);
        due.is("reading(-1, 0)", x.reading(-1, 0), FatLean.BAD);
        due.is("can be", x.reading(0, 1), 1);
        x.go(1, 0);
        x.go(0, 0);
        due.is("can not be", x.reading(0, 1), 0);
        due.is("can be still", x.reading(1, 1), 1);
        FatLean four = Due.told("land 1 9;land 2 8;land 3 7;land 4 6;");
        due.is("four lands bear", four.bears(1), 10);
        due.is("four lands bear", four.bears(0), 30);
        due.is("the eighth year", Due.told("dream lllllllf 1;").reading(0, 17), 1);
    }
}
