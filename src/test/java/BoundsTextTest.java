/** The boundary cases of promises 1 to 9, sentence by sentence, and of THE TAPE and its FAULTS. */
public final class BoundsTextTest {
    private static final String RICH = Script.RICH;
    private static final String WHOLE = Script.WHOLE;
    /** Each line of a text: its TOKENS, and of each NUMBER the least and the greatest one. */
    private static final String[] LINES = {"land 0..9 0..9 ;", "dream w 1..9 ;", "people 0..40 0..20 ;",
        "granary 0..40 0..9 0..5 ;", "price 0..9 0..9 ;", "steward K 0..9 ;"};

    public static void main(String[] args) {
        Due due = new Due();
        Script script = new Script(due);
        newObject(script);
        tape(script);
        end(script);
        text(script);
        textTellsAll(script);
        fault(script);
        tokens(due, script);
        misplaced(due);
        outOfBounds(due, script);
        oneTooMany(due, script);
        firstFaultMet(due);
        rule(script);
        land(script);
        reading(script);
        bears(script);
        script.covers(1, 9);
        due.finish();
    }

    private static void newObject(Script s) {
        s.holds(1, "no LANDS", "", "rule(0)=0 land(0,0)=BAD land(0,1)=BAD bears(0)=0 bears(1)=0 till(0,0,0)=BAD "
            + "worth(0,0,0)=BAD");
        s.holds(1, "no READINGS", "", "rule(1)=0 reading(0,0)=BAD reading(0,1)=BAD reading(0,10)=BAD weigh(0,1)=BAD "
            + "can()=0 count(4)=0 fits()=0 ahead(0,0,0)=BAD when(0)=BAD stewards(0,0)=BAD hoards(0)=BAD");
        s.holds(1, "SHEETS have nothing", "", "lay(0,0,0)=-11 lay(1,0,0)=-11 lay(2,0,0)=-11 lay(3,0,0)=-11 count(3)=NONE "
            + "read(0,0,0,1)=0 torn()=1 read(1,1,0,1)=0 torn()=1 read(2,2,0,1)=0 torn()=1 read(3,0,0,1)=0 torn()=1");
        s.holds(1, "NEED 0, HUNGER 0, CAP 40, ROT 0, STORE 0", "", "rule(2)=0 rule(3)=0 rule(4)=40 rule(5)=0 rule(6)=0");
        s.holds(1, "PRICE 1, 1", "", "rule(7)=1 rule(8)=1 price(0,5)=1 price(1,6)=1");
        s.holds(1, "a STEWARD of KIND all, v 0", "", "rule(9)=0 rule(10)=0 keeps(40)=40 keeps(41)=40");
        s.holds(1, "YEAR, MONEY, STARVED 0, no PAST", "", "rule(11)=0 rule(12)=0 rule(13)=0 count(5)=0");
        s.holds(1, "nothing is SEEN, no IMAGES, an empty TAPE", "", "count(0)=0 count(1)=0 count(2)=0 back(0)=STATE "
            + "back(1)=STATE end(0)=0 forget(0)=0");
        s.holds(1, "no FAULT", "", "fault()=0 torn()=0");
        s.holds(1, "eight YEARS go", "", "year(1)=0 year(0)=0 go(1,0)=0 go(0,0)=0 year(0)=0 year(0)=0 year(0)=0 "
            + "year(1)=0 rule(11)=8 count(5)=3 year(0)=FULL");
    }

    private static void tape(Script s) {
        s.holds(2, "a byte (0 to 127)", "", "feed(0)=1 feed(127)=2 feed(1)=3 feed(126)=4 count(2)=4");
        s.holds(2, "BAD: below 0", WHOLE, RICH + "feed(-1)=BAD feed(-128)=BAD feed(MIN)=BAD count(2)=9");
        s.holds(2, "BAD: above 127", WHOLE, RICH + "feed(128)=BAD feed(255)=BAD feed(256)=BAD feed(288)=BAD "
            + "feed(MAX)=BAD "
            + "count(2)=9");
        s.holds(2, "how many it has", WHOLE, "feed(32)=1 feed(32)=2 end(1)=2 feed(32)=2 text()=0 feed(32)=1");
        s.holds(2, "160 at most", "", "feed(32)*159=159 feed(32)=160 count(2)=160");
        s.holds(2, "FULL: more than 160", "", "feed(32)*160=160 feed(59)=FULL feed(32)=FULL feed(0)=FULL feed(127)=FULL "
            + "count(2)=160 text()=0 fault()=0");
        s.holds(2, "FULL, but BAD is the first that fits", "", "feed(32)*160 feed(128)=BAD feed(-1)=BAD feed(32)=FULL");
        s.holds(2, "behind THE TAPE: at the last place", "", "feed(32)*159 feed(59)=160 text()=-169 fault()=2");
        s.holds(2, "one comes again where one went", "", "feed(32)*160 end(159)=160 feed(36)=160 feed(36)=FULL "
            + "text()=-169 fault()=1");
    }

    private static void end(Script s) {
        s.holds(3, "how many it had", "", "feed[abc] end(3)=3 end(2)=3 end(0)=2 end(0)=0 count(2)=0");
        s.holds(3, "its first n bytes", "", "feed[land 1 2;price 3] end(9)=16 count(2)=9 text()=1 land(0,1)=1 "
            + "land(0,0)=2");
        s.holds(3, "what was cut off is not read: a figure", "", "feed[land 1 12] end(8)=9 text()=-18 fault()=2");
        s.holds(3, "what was cut off is not read: a letter", "", "feed[landx] end(4)=5 text()=-14 fault()=2");
        s.holds(3, "what was cut off is not read: blanks, a line", "", "feed[land 1 2;   price 1 1;] end(12)=22 "
            + "text()=1 fault()=0");
        s.holds(3, "what was told is not read again", "", "tell[land 1 12;]=-17/3 tell[land 1 1]=-18/2 tell[lan]=-10/2 "
            + "tell[]=0/0");
        s.holds(3, "what comes then is behind them", "", "feed[land 1 2;] end(5)=9 feed[7 8;] text()=1 land(0,1)=7");
        s.holds(3, "0: none", WHOLE, RICH + "end(0)=9 count(2)=0 text()=0");
        s.holds(3, "BAD: below 0", WHOLE, RICH + "end(-1)=BAD end(MIN)=BAD count(2)=9");
        s.holds(3, "BAD: more than there are", WHOLE, RICH + "end(10)=BAD end(160)=BAD end(MAX)=BAD count(2)=9 end(9)=9");
        s.holds(3, "BAD: of an empty TAPE", "", "end(1)=BAD end(-1)=BAD end(0)=0");
        s.holds(3, "of a full TAPE", "", "feed(32)*160 end(161)=BAD end(160)=160 end(159)=160 count(2)=159");
    }

    private static void text(Script s) {
        s.holds(4, "how many lines: none", "", "tell[]=0/0 tell[ ]=0/0");
        s.holds(4, "how many lines: none in 160 blanks", "", "feed(32)*160 text()=0 fault()=0");
        s.holds(4, "how many lines: one", "", "tell[price 1 1;]=1/0");
        s.holds(4, "how many lines: as many as may be", "", "tell[land 0 0;land 0 0;land 0 0;land 0 0;dream f 1;dream f "
            + "1;"
            + "dream f 1;dream f 1;people 0 0;granary 0 0 0;price 0 0;steward all 0;]=12/0");
        s.holds(4, "a line that ends at the last place", "", "feed(32)*151 feed[land 1 2;] count(2)=160 text()=1 "
            + "fault()=0 "
            + "land(0,0)=2");
        s.holds(4, "THE TAPE is empty then", "", "tell[land 1 1;]=1 count(2)=0 text()=0 tell[land 1]=-16 count(2)=0 "
            + "text()=0 "
            + "fault()=0");
        s.holds(4, "-10 less the place: the first", WHOLE, "tell[?]=-10/1");
        s.holds(4, "-10 less the place: the last", "", "feed(32)*159 feed(36) text()=-169 fault()=1 count(2)=0");
        s.holds(4, "-10 less the place: behind the last", "", "feed(32)*156 feed[land] text()=-170 fault()=2 count(2)=0");
        s.holds(4, "that which was told stays", WHOLE, RICH + "end(0) tell[land 1 1;dream l 1;people 1 1;granary 1 2 1;"
            + "price 2 2;steward need 1;x]=-79/2");
        s.holds(4, "that which was told stays: in the middle of a line", WHOLE, RICH + "end(0) tell[granary 7 3]=-21/2 "
            + "rule(4)=20 rule(5)=5 rule(6)=4 tell[land 4]=-16/2 rule(0)=2 tell[dream ll]=-18/2 rule(1)=3");
    }

    private static void textTellsAll(Script s) {
        // what is only tried, to the end of all YEARS, is not told either
        String had = RICH + "end(0) year(0) year(0) ahead(0,8,2)=25 drift(1,0,0)=25 ";
        s.holds(4, "an empty text tells all", WHOLE, had + "tell[]=0 rule(0)=0 rule(1)=0 rule(2)=0 rule(3)=0 rule(4)=40 "
            + "rule(5)=0 rule(6)=0 rule(7)=1 rule(8)=1 rule(9)=0 rule(10)=0 rule(11)=0 rule(12)=0 rule(13)=0 "
            + "land(0,0)=BAD reading(0,0)=BAD can()=0 count(5)=0");
        s.holds(4, "a text of lands: all else is as at first", WHOLE, had + "tell[land 3 4;]=1 rule(0)=1 land(0,1)=3 "
            + "land(1,0)=BAD rule(1)=0 rule(2)=0 rule(4)=40 rule(5)=0 rule(6)=0 rule(8)=1 rule(9)=0 rule(10)=0");
        s.holds(4, "a text of dreams: THE PAST is gone", WHOLE, had + "tell[dream l 5;]=1 rule(1)=1 reading(0,0)=5 "
            + "can()=1 "
            + "reading(1,0)=BAD rule(0)=0 rule(2)=0 rule(3)=0 rule(11)=0");
        s.holds(4, "a text of people", WHOLE, had + "tell[people 5 6;]=1 rule(0)=0 rule(1)=0 rule(2)=5 rule(3)=6 "
            + "rule(4)=40 "
            + "rule(7)=1 rule(8)=1 rule(9)=0 rule(10)=0 rule(13)=0");
        s.holds(4, "a text of a granary", WHOLE, had + "tell[granary 7 3 2;]=1 rule(2)=0 rule(3)=0 rule(4)=7 rule(5)=3 "
            + "rule(6)=2 rule(8)=1");
        s.holds(4, "a text of prices", WHOLE, had + "tell[price 4 5;]=1 rule(4)=40 rule(5)=0 rule(6)=0 rule(7)=4 "
            + "rule(8)=5 "
            + "rule(12)=0");
        s.holds(4, "a text of a steward", WHOLE, had + "tell[steward need 7;]=1 rule(2)=0 rule(7)=1 rule(9)=4 "
            + "rule(10)=7");
        s.holds(4, "nothing is SEEN", WHOLE, RICH + "count(0)=2 text()=1 count(0)=0 forget(1)=BAD see(1,1)=1");
        s.holds(4, "IMAGES are gone", WHOLE, RICH + "count(1)=2 text()=1 count(1)=0 back(0)=STATE back(1)=STATE "
            + "keep(0)=0 "
            + "keep(1)=0");
        s.holds(4, "SHEETS and torn() stay", WHOLE, RICH + "text()=1 count(3)=4 torn()=3 lay(0,3,1)=1 lay(0,4,1)=-12 "
            + "lay(3,1,1)=1 read(0,1,0,1)=-20");
        s.holds(4, "SEEN and IMAGES stay if it is refused", WHOLE, RICH + "feed(36) text()=-19 count(0)=2 count(1)=2 "
            + "back(0)=0 "
            + "back(1)=1");
    }

    private static void fault(Script s) {
        s.holds(5, "0: of none", "", "fault()=0 feed(36) fault()=0");
        s.holds(5, "0: of a text that was taken", "", "tell[$] fault()=1 text()=0 fault()=0");
        s.holds(5, "of the latest text()", "", "tell[$] fault()=1 tell[;] fault()=2 tell[land 10] fault()=3 "
            + "tell[price 1 1;price] fault()=4 tell[land 1 1;land 1 1;land 1 1;land 1 1;land] fault()=5 feed(36) "
            + "fault()=5 "
            + "end(0)=1 fault()=5");
        s.holds(5, "no other call changes it", WHOLE, RICH + "fault()=2 back(0)=0 fault()=2 read(0,1,2,1)=1 fault()=2 "
            + "feed(128)=BAD fault()=2 sheet(0,0,-1)=-14 fault()=2");
    }

    private static void tokens(Due due, Script s) {
        s.holds(0, "a NUMBER of 1 or 2 figures", "", "tell[land 9 09;people 40 5;]=2/0 land(0,0)=9 rule(2)=40");
        s.holds(0, "NUMBERS with noughts", "", "tell[granary 00 00 00;people 01 00;]=2/0 rule(4)=0 rule(2)=1");
        due.is("a NUMBER that is too long", Due.faultOf("land 001 1;"), "-15/1");
        due.is("a NUMBER that is too long, at the end", Due.faultOf("land 1 111"), "-17/1");
        due.is("a NUMBER that is too long, of many figures", Due.faultOf("people 99999999999999999999"), "-17/1");
        due.is("a NUMBER that is too long where none can stand", Due.faultOf("100 land"), "-10/1");
        due.is("a NUMBER that is too long for a K", Due.faultOf("steward 100"), "-18/1");
        due.is("a NUMBER that is too long for a dream", Due.faultOf("dream 100"), "-16/1");
        due.is("a NUMBER that is too long for ;", Due.faultOf("land 1 1 100"), "-19/1");
        due.is("a TOKEN as long as may be: a word", Due.faultOf("landland 1"), "-10/2");
        due.is("a TOKEN as long as may be: a NUMBER", Due.faultOf("land 12;"), "-15/3");
        due.is("one ; is a TOKEN", Due.faultOf("land 1 1;;"), "-19/2");
        due.is("no blanks where TOKENS end by themselves", Due.faultOf("land1 1;dream f1;people1 1;steward "
            + "all1;"), "4/0");
        due.is("blanks between", Due.faultOf("   land   1   1   ;   "), "1/0");
        for (int c = 0; c < 128; c++) {
            everyByte(due, c);
        }
    }

    /** A byte at the beginning, behind a NUMBER, and where a NUMBER stands. */
    private static void everyByte(Due due, int c) {
        String first = "-10/1";
        String behind = "-16/1";
        String inside = "-17/1";
        if (c == ' ') {
            first = "0/0";
            behind = "-17/2";
            inside = "-18/2";
        } else if (c >= '0' && c <= '9') {
            first = "-10/2";
            behind = "-15/3";
            inside = "-18/2";
        } else if (c == ';' || c >= 'a' && c <= 'z') {
            first = "-10/2";
            behind = "-16/2";
            inside = "-17/2";
        }
        due.is("byte " + c + " begins a text", Due.faultOf(String.valueOf((char) c)), first);
        due.is("byte " + c + " behind a NUMBER", Due.faultOf("land 9" + (char) c), behind);
        due.is("byte " + c + " where a NUMBER stands", Due.faultOf("land 9 " + (char) c), inside);
    }

    private static String[] least(String line) {
        String[] tokens = line.split(" ");
        for (int i = 0; i < tokens.length; i++) {
            int dots = tokens[i].indexOf("..");
            String word = tokens[i].equals("w") ? "f" : tokens[i].equals("K") ? "all" : tokens[i];
            tokens[i] = dots > 0 ? tokens[i].substring(0, dots) : word;
        }
        return tokens;
    }

    private static String join(String[] tokens, int n) {
        return String.join(" ", java.util.Arrays.copyOf(tokens, n)) + " ";
    }

    /** At each place of each line every TOKEN that can not stand there, and the end: the length. */
    private static void misplaced(Due due) {
        for (String line : LINES) {
            String[] tokens = least(line);
            due.is("taken: " + line, Due.faultOf(String.join(" ", tokens)), "1/0");
            for (int i = 1; i < tokens.length; i++) {
                String ahead = join(tokens, i);
                String place = String.valueOf(-10 - ahead.length());
                due.is("the end behind: " + ahead, Due.faultOf(ahead), place + "/2");
                due.is("the end at once behind: " + ahead, Due.faultOf(ahead.trim()), -9 - ahead.length() + "/2");
                boolean number = Character.isDigit(tokens[i].charAt(0));
                boolean word = Character.isLetter(tokens[i].charAt(0));
                if (!number) {
                    due.is("a NUMBER behind: " + ahead, Due.faultOf(ahead + "1"), place + "/2");
                }
                if (!word) {
                    due.is("a word behind: " + ahead, Due.faultOf(ahead + "land"), place + "/2");
                }
                if (!tokens[i].equals(";")) {
                    due.is("; behind: " + ahead, Due.faultOf(ahead + ";"), place + "/2");
                }
            }
        }
        for (String word : new String[] {"lan", "lands", "and", "drea", "dreams", "peopl", "peoples", "granar", "granarys",
            "pric", "prices", "stewar", "stewards", "sand", "bream", "teople", "branary", "arice", "ateward", "lanb",
            "dreal", "all", "part", "level", "none", "need", "f", "l", "a", "z"}) {
            due.is("a word that begins no line: " + word, Due.faultOf(" " + word + " 1 1;"), "-11/2");
        }
        for (String word : new String[] {"al", "alls", "par", "parts", "leve", "levels", "non", "nones", "nee", "needs",
            "ill", "bart", "revel", "lone", "feed", "alf", "pars", "leven", "nond", "neef", "ll", "steward", "land", "f", "l"}) {
            due.is("a word that is no K: " + word, Due.faultOf("steward " + word + " 1;"), "-18/2");
        }
        due.is("a NUMBER begins no line", Due.faultOf(" 1"), "-11/2");
        due.is("; begins no line", Due.faultOf(" ;"), "-11/2");
        due.is("a NUMBER begins no line behind one", Due.faultOf("land 1 1;1"), "-19/2");
    }

    /** Each NUMBER of each line at its least and greatest, and one beyond. */
    private static void outOfBounds(Due due, Script s) {
        for (String line : LINES) {
            String[] bounds = line.split(" ");
            for (int i = 1; i < bounds.length; i++) {
                int dots = bounds[i].indexOf("..");
                if (dots > 0) {
                    numberBounds(due, line, i, Integer.parseInt(bounds[i].substring(0, dots)),
                        Integer.parseInt(bounds[i].substring(dots + 2)));
                }
            }
        }
        due.is("ROT 1", Due.faultOf("granary 5 1 0;"), "-20/3");
        due.is("ROT 01", Due.faultOf("granary 5 01 0;"), "-20/3");
        due.is("ROT 2", Due.faultOf("granary 5 2 0;"), "1/0");
        s.holds(0, "STORE as CAP", "", "tell[granary 40 9 40;]=1/0 rule(4)=40 rule(5)=9 rule(6)=40 tell[granary 0 2 "
            + "0;]=1/0 "
            + "rule(4)=0 rule(5)=2 rule(6)=0");
        due.is("STORE above CAP", Due.faultOf("granary 39 0 40;"), "-23/3");
        due.is("STORE above CAP, which is 0", Due.faultOf("granary 0 0 1;"), "-22/3");
        due.is("STORE above CAP, which is 40", Due.faultOf("granary 40 0 41;"), "-23/3");
        s.holds(0, "STORE above CAP of this text, not of the former one", "granary 40 0 40;", "tell[granary 9 0 "
            + "10;]=-22/3");
        s.holds(0, "STORE may be above CAP of the former text", "granary 5 0 5;", "tell[granary 9 0 9;]=1/0 rule(6)=9");
        String w = "";
        for (int years = 1; years <= 8; years++) {
            w += years % 2 == 1 ? "f" : "l";
            due.is("a dream of " + years, Due.faultOf("dream " + w + " 1;"), "1/0");
        }
        due.is("a word that is too long for a dream", Due.faultOf("dream " + w + "f 1;"), "-16/3");
        due.is("a word that is too long for a dream, of 9 lean", Due.faultOf("dream lllllllll 1;"), "-16/3");
        due.is("a word that is much too long for a dream", Due.faultOf("dream " + "f".repeat(154)), "-16/3");
        for (String word : new String[] {"a", "e", "g", "k", "m", "z", "fa", "lz", "fflg", "fffffffa", "gfl", "need", "fffffffff",
            "affffffff", "ffffffffz"}) {
            due.is("a word of another letter: " + word, Due.faultOf(" dream " + word + " 1;"), "-17/3");
        }
    }

    private static void numberBounds(Due due, String line, int i, int least, int most) {
        String[] tokens = least(line);
        if (tokens[0].equals("granary") && i == 3) {
            tokens[1] = "5";
        }
        String place = String.valueOf(-10 - join(tokens, i).length());
        for (int n : new int[] {least, least + (tokens[0].equals("granary") && i == 2 ? 2 : 1), most - 1, most}) {
            tokens[i] = String.valueOf(n);
            due.is("within: " + join(tokens, tokens.length), Due.faultOf(join(tokens, tokens.length)), "1/0");
        }
        for (int n : new int[] {most + 1, 99}) {
            tokens[i] = String.valueOf(n);
            due.is("too great: " + join(tokens, tokens.length), Due.faultOf(join(tokens, tokens.length)), place + "/3");
        }
        if (least > 0) {
            tokens[i] = "0";
            due.is("too small: " + join(tokens, tokens.length), Due.faultOf(join(tokens, tokens.length)), place + "/3");
        }
    }

    private static void oneTooMany(Due due, Script s) {
        for (int i = 2; i < LINES.length; i++) {
            String line = String.join(" ", least(LINES[i]));
            String word = least(LINES[i])[0];
            due.is("twice: " + line, Due.faultOf(line + line), -10 - line.length() + "/4");
            due.is("twice, with one between: " + line, Due.faultOf(line + "land 1 1; " + word),
                -20 - line.length() + "/4");
        }
        String lines = "people 0 0;granary 0 0 0;price 0 0;steward all 0;";
        due.is("each once", Due.faultOf(lines), "4/0");
        s.holds(0, "once in each text, not once for all", lines, "tell[" + lines + "]=4/0");
        s.holds(0, "once in each text, whatever was refused", "", "tell[people 1 1;price 1 1;x]=-31/2 "
            + "tell[" + lines + "]=4/0");
        String lands = "land 1 1;".repeat(4);
        String dreams = "dream f 1;".repeat(4);
        due.is("the 4th land", Due.faultOf(lands), "4/0");
        due.is("the 4th dream", Due.faultOf(dreams), "4/0");
        due.is("the 5th land", Due.faultOf(lands + "land 1 1;"), "-46/5");
        due.is("the 5th dream", Due.faultOf(dreams + "dream f 1;"), "-50/5");
        due.is("the 5th land behind dreams", Due.faultOf(lands + dreams + " land"), "-87/5");
        due.is("the 5th dream behind lands", Due.faultOf(dreams + lands + " dream"), "-87/5");
        s.holds(0, "4 in each text, not in all", lands + dreams, "tell[" + lands + dreams + "]=8/0 rule(0)=4 rule(1)=4");
    }

    /** Of two FAULTS the first met as it is read: a TOKEN is read when the one before has been taken. */
    private static void firstFaultMet(Due due) {
        String[][] texts = {{"land 10 $", "-15/3"}, {"land 1 10$", "-17/3"}, {"land 1 1$", "-18/1"}, {"land x$", "-15/2"},
            {"lan$", "-10/2"}, {"land$", "-14/1"}, {"$land", "-10/1"}, {"dream g 100", "-16/3"}, {"dream f$", "-17/1"},
            {"dream fffffffff$", "-16/3"}, {"dream f 0$", "-18/3"}, {"dream f 10 1", "-18/3"}, {"steward x 100", "-18/2"},
            {"steward all$", "-21/1"}, {"granary 41 1 99", "-18/3"}, {"granary 5 1 99", "-20/3"}, {"granary 5 "
            + "1$", "-20/3"},
            {"people 41 21", "-17/3"}, {"price 10 10", "-16/3"}, {"people 1 1;people$", "-21/4"},
            {"people 1 1;people 99 99", "-21/4"}, {"price 1 1;price 100", "-20/4"}, {"land 1 1 1;$", "-19/2"},
            {"land 1 1;land 1 1;land 1 1;land 1 1;land$", "-46/5"}, {"land 1 1;land 1 1;land 1 1;land 1 "
            + "1;landx", "-46/2"},
            {"land 1 1;land 1 1;land 1 1;land 1 1;land 100", "-46/5"}, {"land 1 1;;$", "-19/2"}, {"land 1 1;$;", "-19/1"},
            {"land 100 x", "-15/1"}, {"land 99 100", "-15/3"}};
        for (String[] t : texts) {
            due.is("the first met in: " + t[0], Due.faultOf(t[0]), t[1]);
        }
    }

    private static void rule(Script s) {
        String text = "land 9 2;dream f 3;people 8 12;granary 20 5 4;price 1 6;steward level 7;";
        s.holds(6, "what 0 to 13, each its own", text, "rule(0)=1 rule(1)=1 rule(2)=8 rule(3)=12 rule(4)=20 rule(5)=5 "
            + "rule(6)=4 rule(7)=1 rule(8)=6 rule(9)=2 rule(10)=7 rule(11)=0 rule(12)=0 rule(13)=0");
        // lean: 6 to eat for 8; fat: 9, of which 1 is sold at 1
        s.holds(6, "YEAR, MONEY, STARVED so far", text, "go(0,0)=2 rule(11)=1 rule(12)=0 rule(13)=2 go(1,0)=0 rule(11)=2 "
            + "rule(12)=1 rule(13)=2 rule(6)=0");
        s.holds(6, "YEAR 8 at most", "", "go(1,0) go(0,0) go(0,0) go(0,0) go(0,0) go(0,0) go(0,0) rule(11)=7 go(0,0)=0 "
            + "rule(11)=8 go(0,0)=FULL rule(11)=8");
        s.holds(6, "BAD", WHOLE, RICH + "rule(-1)=BAD rule(14)=BAD rule(MIN)=BAD rule(MAX)=BAD");
    }

    private static void land(Script s) {
        String four = "land 1 9;land 2 8;land 3 7;land 4 6;";
        s.holds(7, "0 LEAN, 1 FAT, of each", four, "land(0,0)=9 land(0,1)=1 land(1,0)=8 land(1,1)=2 land(2,0)=7 "
            + "land(2,1)=3 "
            + "land(3,0)=6 land(3,1)=4");
        s.holds(7, "0 and 9", "land 0 9;land 9 0;", "land(0,1)=0 land(0,0)=9 land(1,1)=9 land(1,0)=0");
        s.holds(7, "BAD: no such LAND", WHOLE, RICH + "land(-1,0)=BAD land(2,0)=BAD land(3,1)=BAD land(4,0)=BAD "
            + "land(MIN,0)=BAD "
            + "land(MAX,1)=BAD");
        s.holds(7, "BAD: no such LAND of four", four, "land(4,0)=BAD land(-1,1)=BAD land(3,0)=6");
        s.holds(7, "BAD: no LANDS", "dream f 1;", "land(0,0)=BAD land(-1,0)=BAD");
        s.holds(7, "BAD: what", WHOLE, RICH + "land(0,-1)=BAD land(0,2)=BAD land(0,MIN)=BAD land(0,MAX)=BAD");
    }

    private static void reading(Script s) {
        String four = "dream f 1;dream l 9;dream lllllllf 5;dream ffffffff 3;";
        s.holds(8, "0 ODDS, of each", four, "reading(0,0)=1 reading(1,0)=9 reading(2,0)=5 reading(3,0)=3");
        s.holds(8, "10 and y: YEARS 0 to 7, all behind those told are lean", four, "reading(0,10)=1 reading(0,11)=0 "
            + "reading(0,17)=0 reading(1,10)=0 reading(1,17)=0 reading(2,16)=0 reading(2,17)=1 reading(2,10)=0 "
            + "reading(3,10)=1 reading(3,13)=1 reading(3,17)=1");
        s.holds(8, "1 whether it CAN BE: ahead of all YEARS", four, "reading(0,1)=1 reading(1,1)=1 reading(2,1)=1 "
            + "reading(3,1)=1");
        s.holds(8, "1 whether it CAN BE: behind the last YEAR alone they part", "dream lllllllf 1;dream l 1;",
            "go(0,0) go(0,0) go(0,0) go(0,0) go(0,0) go(0,0) go(0,0) reading(0,1)=1 reading(1,1)=1 go(0,0) "
            + "reading(0,1)=0 reading(1,1)=1");
        s.holds(8, "1 whether it CAN BE: behind the first YEAR", four, "go(0,0) reading(0,1)=0 reading(1,1)=1 "
            + "reading(2,1)=1 reading(3,1)=0");
        s.holds(8, "BAD: no such READING", WHOLE, RICH + "reading(-1,0)=BAD reading(3,0)=BAD reading(4,1)=BAD "
            + "reading(MIN,10)=BAD "
            + "reading(MAX,0)=BAD");
        s.holds(8, "BAD: no such READING of four", four, "reading(4,0)=BAD reading(-1,10)=BAD");
        s.holds(8, "BAD: what", WHOLE, RICH + "reading(0,-1)=BAD reading(0,2)=BAD reading(0,9)=BAD reading(0,18)=BAD "
            + "reading(0,5)=BAD reading(0,MIN)=BAD reading(0,MAX)=BAD");
    }

    private static void bears(Script s) {
        s.holds(9, "all LANDS: none", "granary 40 0 40;", "bears(0)=0 bears(1)=0");
        s.holds(9, "all LANDS: four", "land 1 9;land 2 8;land 3 7;land 4 6;", "bears(1)=10 bears(0)=30");
        s.holds(9, "all LANDS: four that bear most", "land 9 9;land 9 9;land 9 9;land 9 9;", "bears(1)=36 bears(0)=36");
        s.holds(9, "all LANDS of the latest text alone", "land 9 9;land 9 9;", "tell[land 1 2;] bears(1)=1 bears(0)=2");
        s.holds(9, "BAD", WHOLE, RICH + "bears(-1)=BAD bears(2)=BAD bears(MIN)=BAD bears(MAX)=BAD");
    }
}
