/** Terms 1, promises 1 to 4 and 30: each bound of what can be told and each FAULT has a method of its own. */
public final class TextEdgesTest {
    private static final Edges edge = new Edges();

    public static void main(String[] args) {
        newObject();
        letters();
        mostLetters();
        clear();
        bars();
        barsAtFirst();
        barNumbers();
        parts();
        loud();
        notes();
        players();
        lung();
        needs();
        purse();
        fine();
        atFirst();
        blanks();
        noOtherBlank();
        ended();
        barsComeFirst();
        onceEach();
        firstTokenThatCantStand();
        anyLetterAhead();
        anyLetterBehind();
        tooMany();
        tooFew();
        otherLetter();
        above99();
        zeroAhead();
        endsTooEarly();
        items();
        faultLeavesAll();
        readAnew();
        noText();
        count();
        edge.end("TextEdgesTest");
    }

    // ---- the object and its text

    private static void newObject() {
        edge.sentence("As told; no PARTS, no PLAYERS.");
        edge.run("", "count(0)=0 count(1)=0 count(2)=8 count(3)=12 count(4)=5 count(5)=0 count(6)=0 trace()=0"
            + " now(0)=0 now(1)=0 now(2)=0 now(3)=0 part(0,0)=BAD player(0,0)=BAD coins(0,0)=NO coins(0,1)=NO"
            + " gives(0,0)=BAD gives(0,-1)=BAD sleeps(0,0,1)=BAD undo()=STATE share(-1)=NONE share(0)=NO costs(0)=NO"
            + " exchange()=NONE leftOut(0,0)=BAD bars(0)=255 bars(1)=0 bars(2)=8 heard(0)=0 heard(7)=0 heard(8)=BAD"
            + " rests(7)=0 rests(8)=BAD first()=NONE who()=32 broke()=NONE rich(1)=0 odds(7,0,0,0)=1 odds(8,0,0,0)=BAD"
            + " rate(0,0)=NO back(0)=STATE back(1)=STATE forget()=0 clear()=0 score()=0");
    }

    private static void letters() {
        edge.sentence("A letter (0 .. 255) comes to THE TEXT: how many it has. BAD");
        edge.run("", "type(-1)=BAD type(256)=BAD type(LOW)=BAD type(HIGH)=BAD count(6)=0 type(0)=1 type(255)=2 count(6)=2"
            + " type(288)=BAD type(65536)=BAD type(-224)=BAD count(6)=2 clear()=2");
        PaidRests x = new PaidRests();
        for (int letter = 0; letter < 200; letter++) {
            edge.is("type(" + letter + ")", letter + 1, x.type(letter));
        }
        edge.is("clear()", 200, x.clear());
        for (int letter = 200; letter < 256; letter++) {
            edge.is("type(" + letter + ")", letter - 199, x.type(letter));
        }
        // as bytes or by their lowest bits these would be letters that can stand
        edge.run("", "type(98)=1 type(49)=2 type(315)=BAD type(-197)=BAD score()=-12 type(59)=3 score()=1 count(2)=1");
    }

    private static void mostLetters() {
        edge.sentence("They are a text (200 letters at most)");
        edge.run("", typed(199) + " type(59)=200 type(59)=FULL type(256)=BAD"
            + " type(-1)=BAD type(0)=FULL count(6)=200 score()=-209 type(32)=FULL count(6)=200 clear()=200 type(32)=1");
        edge.reads(blanks(195) + "m1 0;", 1);
        edge.reads("m1 0;" + blanks(195), 1);
        edge.fault(blanks(196) + "m1 0", 200);
        edge.fault(blanks(199) + ";", 199);
        edge.fault("m" + blanks(199), 200);
        // the letter that is refused does not come: the text still ends too early
        edge.run("", typed(196) + " type(109)=197 type(49)=198 type(32)=199 type(48)=200 type(59)=FULL score()=-210 count(1)=0");
    }

    private static String typed(int blanks) {
        StringBuilder calls = new StringBuilder();
        for (int i = 1; i <= blanks; i++) {
            calls.append(" type(32)=").append(i);
        }
        return calls.toString();
    }

    private static String blanks(int many) {
        return " ".repeat(many);
    }

    private static void clear() {
        edge.sentence("THE TEXT is empty: how many letters it had.");
        edge.run("", "clear()=0 clear()=0 type(98)=1 clear()=1 count(6)=0 clear()=0 score()=0");
        edge.run("", typed(200) + " type(32)=FULL clear()=200 clear()=0 type(32)=1");
        edge.run("b3;p1nrn;m2 9;", "type(120)=1 type(120)=2 clear()=2 count(0)=1 count(1)=1 count(2)=3 score()=0");
    }

    // ---- the numbers that are told

    private static void bars() {
        edge.sentence("BARS 0 .. as many as are told less 1 (1 .. 12)");
        numbers("b", ";", 1, 12);
        edge.run("b1;", "count(2)=1 bars(0)=1 bars(2)=1");
        edge.run("b12;", "count(2)=12 bars(0)=4095 bars(2)=12");
    }

    /** Every NUMBER from 0 to 130 at one place: read if it is lo .. hi, the FAULT otherwise. */
    private static void numbers(String ahead, String behind, int lo, int hi) {
        for (int n = 0; n <= 130; n++) {
            if (n >= lo && n <= hi) {
                edge.reads(ahead + n + behind, 1);
            } else {
                edge.fault(ahead + n + behind, ahead.length());
            }
        }
    }

    private static void barsAtFirst() {
        edge.sentence("8 at first");
        edge.run("w1;", "count(2)=8");
        edge.run("p1nrrrrrrn;", "count(2)=8 part(0,1)=129");
        edge.fault("p1nrrrrrr;", 9);
        edge.fault("p1nrrrrrrnn;", 10);
    }

    private static void barNumbers() {
        edge.sentence("BARS 0 .. as many as are told less 1");
        for (int n = 1; n <= 12; n++) {
            int last = n - 1, bit = 1 << last;
            String text = "b" + n + ";p9" + "r".repeat(last) + "n;m12 0;";
            edge.run(text, "gives(0,0)=NONE part(0,1)=" + bit + " player(0,2)=" + bit + " heard(" + last + ")=9"
                + beyond("heard(#)", n) + beyond("rests(#)", n) + beyond("sleeps(0,#,1)", n) + beyond("noted(#,0)", n)
                + beyond("odds(#,0,0,0)", n) + " rests(" + last + ")=0 noted(" + last + ",9)=1 odds(" + last + ",0,9,0)=1"
                + " sleeps(0," + last + ",1)=0 player(0,3)=" + bit + " rests(" + last + ")=1 heard(" + last + ")=0");
        }
    }

    private static String beyond(String call, int bars) {
        StringBuilder calls = new StringBuilder();
        for (String wrong : new String[] {"-1", Integer.toString(bars), "12", "31", "32", "33", "LOW", "HIGH"}) {
            calls.append(' ').append(call.replace("#", wrong)).append("=BAD");
        }
        return calls.toString();
    }

    private static void parts() {
        edge.sentence("PARTS 0 .. (5 at most)");
        for (int n = 0; n <= 5; n++) {
            String text = "b1;" + "p1n;".repeat(n) + "w1;";
            edge.run(text, "count(0)=" + n + " now(1)=" + ((1 << n) - 1) + " part(" + n + ",0)=BAD part(" + (n - 1) + ",0)="
                + (n == 0 ? "BAD" : "1") + " part(-1,0)=BAD gives(" + n + ",-1)=BAD costs(" + n + ")=NO share(" + n + ")=NO"
                + " rate(0," + n + ")=NO");
        }
        edge.sentence("a sixth p");
        edge.fault("b1;" + "p1n;".repeat(6), 23);
        edge.fault("b1;" + "p1n;".repeat(5) + "p", 23);
        edge.fault("b1;" + "p1n;".repeat(5) + "m1 0;  p0", 30);
        edge.reads("b1;" + "p1n;".repeat(5) + "m1 0;", 7);
    }

    private static void loud() {
        edge.sentence("LOUD (1 .. 9)");
        numbers("p", "rrrrrrrr;", 1, 9);
        edge.run("b1;p1n;p9n;", "part(0,0)=1 part(1,0)=9");
    }

    private static void notes() {
        edge.sentence("in each BAR a note or a rest");
        edge.run("b12;p1nnnnnnnnnnnn;p1rrrrrrrrrrrr;p1nrrrrrrrrrrr;p1rrrrrrrrrrrn;",
            "part(0,1)=4095 part(1,1)=0 part(2,1)=1 part(3,1)=2048");
        edge.run("b1;p1n;p1r;", "part(0,1)=1 part(1,1)=0");
    }

    private static void players() {
        edge.sentence("PLAYERS 0 .. (5 at most)");
        for (int n = 0; n <= 5; n++) {
            edge.run("b1;p1n;" + "m1 0;".repeat(n), "count(1)=" + n + " rests(0)=" + n + " player(" + n + ",0)=BAD"
                + " player(" + (n - 1) + ",0)=" + (n == 0 ? "BAD" : "1") + " player(-1,0)=BAD coins(" + n + ",0)=NO"
                + " gives(0," + n + ")=BAD sleeps(" + n + ",0,1)=BAD leftOut(" + n + ",0)=BAD");
        }
        edge.sentence("a sixth p or m");
        edge.fault("m1 0;".repeat(6), 25);
        edge.fault("m1 0;".repeat(5) + "m", 25);
        edge.fault("m1 0;".repeat(5) + "w1; m0", 29);
        edge.reads("m1 0;".repeat(5) + "p1rrrrrrrr;", 6);
    }

    private static void lung() {
        edge.sentence("LUNG (1 .. 12)");
        numbers("m", " 0;", 1, 12);
        edge.run("m1 0;m12 0;", "player(0,0)=1 player(1,0)=12");
    }

    private static void needs() {
        edge.sentence("NEEDS (0 .. 99)");
        numbers("m1 ", ";", 0, 99);
        edge.run("m1 0;m1 99;", "player(0,1)=0 player(1,1)=99");
    }

    private static void purse() {
        edge.sentence("PURSE (1 .. 60; 12 at first)");
        numbers("w", ";", 1, 60);
        edge.run("w1;", "count(3)=1");
        edge.run("w60;", "count(3)=60");
        edge.run("f1;", "count(3)=12");
    }

    private static void fine() {
        edge.sentence("FINE (0 .. 30; 5 at first)");
        numbers("f", ";", 0, 30);
        edge.run("f0;", "count(4)=0");
        edge.run("f30;", "count(4)=30");
        edge.run("w1;", "count(4)=5");
    }

    private static void atFirst() {
        edge.sentence("8 at first; 12 at first; 5 at first: told once, then not told");
        PaidRests x = edge.run("b2;w60;f30;", "count(2)=2 count(3)=60 count(4)=30");
        edge.is("score of m1 0;", 1, Due.tell(x, "m1 0;"));
        edge.calls(x, "m1 0;", "count(2)=8 count(3)=12 count(4)=5");
        // a text that is not read leaves nothing of itself to the next one
        edge.is("score of b3;w1;f1;x", -19, Due.tell(x, "b3;w1;f1;x"));
        edge.calls(x, "b3;w1;f1;x", "clear()=10 count(2)=8 count(3)=12 count(4)=5");
        edge.is("score of m2 0;", 1, Due.tell(x, "m2 0;"));
        edge.calls(x, "m2 0;", "count(2)=8 count(3)=12 count(4)=5 player(0,0)=2 count(1)=1");
        edge.is("w again in a new text", 2, Due.tell(x, "w2;f2;"));
        edge.is("w again in a new text", 2, Due.tell(x, "w3;f3;"));
    }

    // ---- TOKENS

    private static void blanks() {
        edge.sentence("blanks (32) between TOKENS");
        edge.reads("b2;p1nr;m1 0;w1;f1;", 5);
        edge.reads("  b  2  ;  p  1  n  r  ;  m  1  0  ;  w  1  ;  f  1  ;  ", 5);
        edge.run(" b 12 ; m 12 99 ; ", "count(2)=12 player(0,0)=12 player(0,1)=99");
        // a blank parts a NUMBER into two
        edge.fault("b1 2;", 3);
        edge.fault("w1 0;", 3);
        edge.fault("m10;", 3);
        edge.fault("m1 0 0;", 5);
        edge.reads("m1 0;", 1);
    }

    private static void noOtherBlank() {
        edge.sentence("blanks (32): no other letter is one");
        for (int letter : new int[] {0, 9, 10, 11, 12, 13, 28, 31, 33, 44, 95, 127, 133, 160, 255}) {
            edge.fault("b" + (char) letter + "2;", 1);
            edge.fault((char) letter + "b2;", 0);
            edge.fault("b2;" + (char) letter, 3);
        }
    }

    private static void ended() {
        edge.sentence("ITEMS, each ended by ;");
        edge.fault("b2 p1nr;", 3);
        edge.fault("m1 0m1 0;", 4);
        edge.fault("w1f1;", 2);
        edge.fault("f1w1;", 2);
        edge.fault("b2;p1nrm1 0;", 7);
        edge.fault(";", 0);
        edge.fault("b2;;", 3);
        edge.fault("w1; ;", 4);
    }

    private static void barsComeFirst() {
        edge.sentence("b N (BARS; the first of all, if it is told); b behind another ITEM");
        edge.fault("b2;b2;", 3);
        edge.fault("p1rrrrrrrr;b8;", 11);
        edge.fault("m1 0; b8;", 6);
        edge.fault("w1;b", 3);
        edge.fault("f1;b13;", 3);
        edge.reads("  b2;", 1);
    }

    private static void onceEach() {
        edge.sentence("w N (PURSE), f N (FINE; once each at most)");
        edge.fault("w1;w1;", 3);
        edge.fault("f1;f1;", 3);
        edge.fault("w1;f1;m1 0;w2;", 11);
        edge.fault("f0;w1;m1 0;f0;", 11);
        edge.fault("w1;w", 3);
        edge.fault("f1;f99", 3);
        edge.reads("w1;f1;", 2);
        edge.reads("f1;w1;", 2);
    }

    private static void firstTokenThatCantStand() {
        edge.sentence("FAULT: the place of the first letter of the first TOKEN that can't stand there");
        for (String head : new String[] {"n", "r", ";", "0", "5", "99"}) {
            edge.fault(head, 0);
            edge.fault("   " + head, 3);
            edge.fault("f1;" + head, 3);
        }
        for (String head : new String[] {"b", "w", "f", "m", "p", "m1"}) {
            for (String wrong : new String[] {"b", "p", "m", "w", "f", "n", "r", ";"}) {
                edge.fault(head + wrong, head.length());
                edge.fault(head + "  " + wrong, head.length() + 2);
            }
        }
        for (String wrong : new String[] {"b", "p", "m", "w", "f", "1", "0", ";"}) {
            edge.fault("b2;p1" + (wrong.matches("[01]") ? " " : "") + wrong, wrong.matches("[01]") ? 6 : 5);
            edge.fault("b2;p1n" + wrong, 6);
        }
        // of several the first
        edge.fault("b0;x", 1);
        edge.fault("x;b0;", 0);
        edge.fault("w61 100", 1);
        edge.fault("b2;p1nrn100;x", 7);
        edge.fault("m1 0;b2;m1 100;", 5);
    }

    /** Every letter as a text of its own. */
    private static void anyLetterAhead() {
        edge.sentence("TOKENS are the letters b, p, m, w, f, n, r, NUMBERS and ;");
        for (int letter = 0; letter < 256; letter++) {
            String text = String.valueOf((char) letter);
            if (letter == ' ') {
                edge.reads(text, 0);
            } else {
                edge.fault(text, "bpmwf".indexOf(letter) >= 0 ? 1 : 0);
            }
        }
    }

    /** Every letter behind beginnings of ITEMS. */
    private static void anyLetterBehind() {
        edge.sentence("TOKENS are the letters b, p, m, w, f, n, r, NUMBERS and ; (behind others)");
        for (int letter = 0; letter < 256; letter++) {
            goesOn("b", letter, "123456789");
            goesOn("p", letter, "123456789");
            goesOn("m", letter, "123456789");
            goesOn("w", letter, "123456789");
            goesOn("f", letter, "0123456789");
            goesOn("m1 ", letter, "0123456789");
            goesOn("b2;p1", letter, "nr");
            goesOn("b2;p1n", letter, "nr");
            goesOn("b2;p1n ", letter, "nr");
            ends("b2", letter);
            ends("p1rrrrrrrr", letter);
            ends("m1 0 ", letter);
            ends("w60 ", letter);
            ends("f0 ", letter);
        }
    }

    /** The letter can stand there, if it is one of those: then the text just ends too early. */
    private static void goesOn(String ahead, int letter, String which) {
        boolean stands = letter == ' ' || which.indexOf(letter) >= 0;
        boolean longer = ahead.endsWith("p1") && letter >= '0' && letter <= '9';
        edge.fault(ahead + (char) letter, longer ? ahead.length() - 1 : stands ? ahead.length() + 1 : ahead.length());
    }

    /** Just a ; can stand there; a digit makes another NUMBER of one that is just ahead of it. */
    private static void ends(String ahead, int letter) {
        boolean longer = ahead.equals("b2") && letter >= '0' && letter <= '9';
        if (letter == ';') {
            edge.reads(ahead + ";", 1);
        } else {
            edge.fault(ahead + (char) letter, longer ? 1 : letter == ' ' ? ahead.length() + 1 : ahead.length());
        }
    }

    private static void tooMany() {
        edge.sentence("a letter n or r too many");
        for (int n = 1; n <= 12; n++) {
            String ahead = "b" + n + ";p1" + "n".repeat(n);
            edge.reads(ahead + ";", 2);
            edge.fault(ahead + "n;", ahead.length());
            edge.fault(ahead + " r;", ahead.length() + 1);
        }
    }

    private static void tooFew() {
        edge.sentence("a ; with too few");
        for (int n = 1; n <= 12; n++) {
            String ahead = "b" + n + ";p1" + "r".repeat(n - 1);
            edge.fault(ahead + ";", ahead.length());
            edge.fault(ahead + "  ;", ahead.length() + 2);
        }
        edge.fault("p;", 1);
        edge.fault("m;", 1);
        edge.fault("m1;", 2);
        edge.fault("b;", 1);
        edge.fault("w;", 1);
        edge.fault("f;", 1);
    }

    private static void otherLetter() {
        edge.sentence("of any other letter .. that TOKEN's");
        edge.fault("b2;p1nX;", 6);
        edge.fault("b2;p1nrX;", 7);
        edge.fault("m1 -1;", 3);
        edge.fault("m1 +1;", 3);
        edge.fault("w1.5;", 2);
        edge.fault("B2;", 0);
        edge.fault("b2;P1nr;", 3);
        edge.fault("b2;p1Nr;", 5);
        edge.fault("b2:", 2);
        // letters above 127, and those whose lowest seven bits are a TOKEN's
        edge.fault((char) ('b' + 128) + "2;", 0);
        edge.fault("b" + (char) ('2' + 128) + ";", 1);
        edge.fault("b2" + (char) (';' + 128), 2);
        edge.fault("b2;p1n" + (char) ('r' + 128) + ";", 6);
    }

    private static void above99() {
        edge.sentence("a NUMBER above 99");
        edge.reads("m1 99;", 1);
        edge.fault("m1 100;", 3);
        edge.fault("m1 990;", 3);
        edge.fault("m 100 0;", 2);
        edge.fault("100", 0);
        edge.fault("b2;100;", 3);
        edge.fault("b2;p1nr100;", 7);
        // numbers that would come back into their bounds, if they wrapped around
        edge.fault("f256;", 1);
        edge.fault("f65536;", 1);
        edge.fault("f4294967296;", 1);
        edge.fault("f4294967301;", 1);
        edge.fault("f18446744073709551616;", 1);
        edge.fault("f18446744073709551621;", 1);
        edge.fault("f1" + "0".repeat(190) + ";", 1);
        edge.fault("f1" + "0".repeat(198), 1);
    }

    private static void zeroAhead() {
        edge.sentence("or with a 0 ahead of others");
        edge.reads("f0;", 1);
        edge.reads("m1 0;", 1);
        edge.fault("f00;", 1);
        edge.fault("f01;", 1);
        edge.fault("f030;", 1);
        edge.fault("b012;", 1);
        edge.fault("m01 0;", 1);
        edge.fault("m1 00;", 3);
        edge.fault("m1 099;", 3);
        edge.fault("w060;", 1);
        edge.fault("p01rrrrrrrr;", 1);
        edge.fault("f" + "0".repeat(199), 1);
        edge.fault("f0 1;", 3);
        edge.reads("b10;", 1);
    }

    /** Each beginning of a text: read where an ITEM is ended, otherwise too early. */
    private static void endsTooEarly() {
        edge.sentence("the text's length, if it ends too early");
        String text = " b 12 ; p9 nrnrnrnrnrnr;p1rrrrrrrrrrrr;m12 99; m 1 0 ;w60;f30;";
        int ended = 0;
        for (int n = 0; n <= text.length(); n++) {
            String told = text.substring(0, n);
            ended += told.endsWith(";") ? 1 : 0;
            if (told.isBlank() || told.trim().endsWith(";")) {
                edge.reads(told, ended);
            } else {
                edge.fault(told, n);
                edge.fault(told + "   ", n + 3);
            }
        }
    }

    // ---- score()

    private static void items() {
        edge.sentence("THE TEXT tells all anew, and is empty then: how many ITEMS.");
        edge.reads("", 0);
        edge.reads("   ", 0);
        edge.reads("f0;", 1);
        edge.reads("b1;" + "p1n;".repeat(5) + "m1 0;".repeat(5) + "w1;f0;", 13);
        PaidRests x = edge.run("b1;p1n;", "count(6)=0");
        edge.is("score of m1 0;", 1, Due.tell(x, "m1 0;"));
        edge.calls(x, "m1 0;", "count(6)=0 count(0)=0 count(1)=1 count(2)=8 part(0,0)=BAD");
    }

    private static void faultLeavesAll() {
        edge.sentence("-10 less FAULT: nothing changes.");
        PaidRests x = edge.run("b2;p1nr;m1 7;", "gives(0,0)=NONE sleeps(0,1,1)=0 noted(0,1)=1 keep(1)=0 evening()=1");
        edge.is("score of b2", -12, Due.tell(x, "b2"));
        edge.calls(x, "b2", "score()=-12 count(6)=2 part(0,2)=0 coins(0,1)=5 now(0)=1 now(3)=3 count(5)=1 player(0,1)=7");
        // what it lacked comes behind it
        edge.is("score of b2;p1r", -16, Due.tell(x, ";p1r"));
        edge.is("score of b2;p1rn;", 2, Due.tell(x, "n;"));
        edge.calls(x, "b2;p1rn;", "part(0,1)=2 part(0,2)=NONE count(1)=0 now(0)=0 count(6)=0");
        PaidRests y = edge.run("b2;p1nr;m1 7;", "gives(0,0)=NONE sleeps(0,1,1)=0 keep(1)=0 evening()=1");
        edge.is("score of x", -10, Due.tell(y, "x"));
        edge.calls(y, "x", "undo()=2 player(0,3)=2 evening()=1 back(1)=0 player(0,3)=2 now(3)=0");
    }

    private static void readAnew() {
        edge.sentence("(Read anew: as told, all PARTS nobody's, nothing NOTED, IMAGES are gone.)");
        PaidRests x = edge.run("b2;p1nr;p1rn;m1 7;m1 0;", "gives(0,0)=NONE gives(1,1)=NONE sleeps(0,0,1)=0 evening()=2"
            + " sleeps(1,1,1)=0 noted(0,1)=1 noted(0,1)=2 noted(0,1)=3 noted(0,1)=4 noted(0,1)=5 noted(0,1)=6"
            + " keep(0)=1 keep(1)=1 rate(0,0)=1");
        edge.is("the same again", 5, Due.tell(x, "b2;p1nr;p1rn;m1 7;m1 0;"));
        edge.calls(x, "the same again", "part(0,2)=NONE part(1,2)=NONE now(1)=3 player(0,3)=0 player(1,3)=0 coins(0,1)=0"
            + " coins(1,1)=0 now(0)=0 now(3)=0 undo()=STATE count(5)=0 forget()=0 who()=35 back(0)=STATE back(1)=STATE"
            + " noted(0,1)=1 keep(1)=0 back(0)=STATE back(1)=0 trace()=1");
    }

    private static void noText() {
        edge.sentence("no text at all tells nothing: all is as it is at first");
        edge.run("b2;p1nr;m1 7;w1;f1;", "gives(0,0)=NONE evening()=0 noted(0,1)=1 keep(0)=1 score()=0 count(0)=0 count(1)=0"
            + " count(2)=8 count(3)=12 count(4)=5 count(5)=0 count(6)=0 now(0)=0 now(3)=0 back(0)=STATE share(-1)=NONE");
    }

    private static void count() {
        edge.sentence("0 PARTS, 1 PLAYERS, 2 BARS, 3 PURSE, 4 FINE, 5 NOTED, 6 letters of THE TEXT. BAD.");
        edge.run("b1;p1n;p1n;p1n;p1n;p1n;m1 0;m1 0;m1 0;m1 0;m1 0;w60;f30;", "count(0)=5 count(1)=5 count(2)=1 count(3)=60"
            + " count(4)=30 count(5)=0 count(6)=0 count(-1)=BAD count(7)=BAD count(LOW)=BAD count(HIGH)=BAD count(32)=BAD"
            + " noted(0,0)=1 noted(0,45)=2 count(5)=2 type(98)=1 count(6)=1");
    }
}
