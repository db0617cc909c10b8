/** Each promise of the document by itself; the numbers were worked out by hand from its words. */
public final class PromisesTest {
    private static final int BAD = -1, STATE = -2, FULL = -3, NONE = -9, NO = -1000000;
    private static final int LOW = Integer.MIN_VALUE, HIGH = Integer.MAX_VALUE;

    /** Two parts, three players: part 0 has notes in bars 0, 1, part 1 in bars 1, 2; nobody plays in bar 3. */
    private static final String DUET = "b4;p3nnrr;p5rnnr;m2 5;m1 0;m9 30;w12;f4;";

    private static final Due due = new Due();

    public static void main(String[] args) {
        newObject();
        type();
        clear();
        scoreItems();
        scoreFaults();
        scoreNumbers();
        scoreTellsAnew();
        part();
        player();
        coins();
        now();
        gives();
        sleeps();
        evening();
        eveningSaves();
        undo();
        share();
        shareChooses();
        costs();
        exchange();
        leftOut();
        bars();
        heard();
        rests();
        first();
        noted();
        who();
        broke();
        rich();
        odds();
        rate();
        images();
        count();
        due.end("PromisesTest");
    }

    private static PaidRests duet() {
        return due.told(DUET, 8);
    }

    /** Part 0 is player 0's, part 1 player 1's: paid are 10, 10 and 28. */
    private static PaidRests playedDuet() {
        PaidRests x = duet();
        x.gives(0, 0);
        x.gives(1, 1);
        return x;
    }

    // ---- 1

    private static void newObject() {
        PaidRests x = new PaidRests();
        int[] counts = {0, 0, 8, 12, 5, 0, 0};
        for (int what = 0; what < counts.length; what++) {
            due.is("1: count(" + what + ")", counts[what], x.count(what));
        }
        due.is("1: now(0)", 0, x.now(0));
        due.is("1: now(1)", 0, x.now(1));
        due.is("1: now(2)", 0, x.now(2));
        due.is("1: now(3)", 0, x.now(3));
        due.is("1: trace()", 0, x.trace());
        due.is("1: part(0, 0)", BAD, x.part(0, 0));
        due.is("1: player(0, 0)", BAD, x.player(0, 0));
        due.is("1: coins(0, 0)", NO, x.coins(0, 0));
        due.is("1: back(0)", STATE, x.back(0));
        due.is("1: undo()", STATE, x.undo());
        due.is("1: BAD", BAD, PaidRests.BAD);
        due.is("1: STATE", STATE, PaidRests.STATE);
        due.is("1: FULL", FULL, PaidRests.FULL);
        due.is("1: NONE", NONE, PaidRests.NONE);
        due.is("1: NO", NO, PaidRests.NO);
    }

    // ---- 2

    private static void type() {
        PaidRests x = new PaidRests();
        for (int letter : new int[] {-1, 256, LOW, HIGH}) {
            due.is("2: type(" + letter + ")", BAD, x.type(letter));
        }
        due.is("2: count(6)", 0, x.count(6));
        due.is("2: type(0)", 1, x.type(0));
        due.is("2: type(255)", 2, x.type(255));
        for (int i = 3; i <= 200; i++) {
            due.is("2: type(32)", i, x.type(32));
        }
        due.is("2: type of letter 201", FULL, x.type(32));
        due.is("2: BAD goes ahead of FULL", BAD, x.type(256));
        due.is("2: count(6)", 200, x.count(6));
    }

    // ---- 3

    private static void clear() {
        PaidRests x = new PaidRests();
        due.is("3: clear()", 0, x.clear());
        x.type('m');
        x.type('x');
        due.is("3: clear()", 2, x.clear());
        due.is("3: count(6)", 0, x.count(6));
        due.is("3: clear()", 0, x.clear());
        due.is("3: type", 1, x.type('m'));
        x.clear();
        due.is("3: what was cleared is not read", 1, Due.tell(x, "m1 0;"));
        due.is("3: count(1)", 1, x.count(1));
    }

    // ---- 4

    private static void scoreItems() {
        reads("", 0);
        reads("   ", 0);
        reads("b1;", 1);
        reads(" b 12 ; ", 1);
        reads("f0;w1;", 2);
        reads("w60;f30;m1 0;p1rrrrrrrr;", 4);
        reads("b1;p1n;p2r;p3n;p4r;p9n;m1 0;m12 99;m2 1;m3 2;m4 3;w7;f8;", 13);
        reads("p 1 n r n r n r n r ;", 1);
        PaidRests x = due.told("b3;p7nrn;m4 9;", 3);
        due.is("4: part(0, 0)", 7, x.part(0, 0));
        due.is("4: part(0, 1)", 5, x.part(0, 1));
        due.is("4: player(0, 0)", 4, x.player(0, 0));
        due.is("4: player(0, 1)", 9, x.player(0, 1));
        StringBuilder longest = new StringBuilder("m1 0;");
        while (longest.length() < 200) longest.append(' ');
        reads(longest.toString(), 1);
    }

    private static void reads(String text, int items) {
        PaidRests x = due.told(text, items);
        due.is("4: the text is empty behind " + text, 0, x.count(6));
    }

    private static void fault(String text, int place) {
        PaidRests x = due.told("b2;p1nr;m1 0;", 3);
        x.gives(0, 0);
        x.noted(0, 1);
        x.keep(0);
        due.is("4: score of " + text, -10 - place, Due.tell(x, text));
        due.is("4: the text stays: " + text, text.length(), x.count(6));
        due.is("4: nothing changes: " + text, 0, x.part(0, 2));
        due.is("4: nothing changes: " + text, 2, x.count(2));
        due.is("4: nothing changes: " + text, 12, x.count(3));
        due.is("4: nothing changes: " + text, 1, x.count(5));
        due.is("4: nothing changes: " + text, 1, x.now(3));
        due.is("4: the same again: " + text, -10 - place, x.score());
        due.is("4: nothing changes: " + text, 0, x.back(0));
    }

    private static void scoreFaults() {
        fault("b2;b2;", 3);
        fault("w1; b2;", 4);
        fault("b1;p1n;p1n;p1n;p1n;p1n; p1n;", 24);
        fault("m1 0;m1 0;m1 0;m1 0;m1 0;m1 0;", 25);
        fault("w1;f1;w1;", 6);
        fault("f1;w1;f1;", 6);
        fault("b2;p1nrn;", 7);
        fault("b2;p1nr r;", 8);
        fault("b2;p1n;", 6);
        fault("b2;p1;", 5);
        fault("p;", 1);
        fault("b;", 1);
        fault("m1;", 2);
        fault("m1 0 0;", 5);
        fault("w;", 1);
        fault("b2 2;", 3);
        fault("b2 b;", 3);
        fault(";", 0);
        fault("b2;;", 3);
        fault("n;", 0);
        fault("5;", 0);
        fault("x", 0);
        fault("B2;", 0);
        fault("b2;p1nN;", 6);
        fault("b\t2;", 1);
        fault("b2;p1n5;", 6);
        fault("b-2;", 1);
        fault("b", 1);
        fault("b2", 2);
        fault("b2  ", 4);
        fault("b2;p1n", 6);
        fault("b2;p1nr", 7);
        fault("m1 ", 3);
        fault("m1 0", 4);
        fault("b2;p ", 5);
        fault("m12;", 3);
        fault("b2;p1nr;x;b0;", 8);
        fault(((char) 200) + "b2;", 0);
        fault("f" + ((char) 255) + ";", 1);
        fault("f" + ((char) 0) + ";", 1);
    }

    private static void scoreNumbers() {
        fault("b0;", 1);
        fault("b13;", 1);
        fault("b2;p0nr;", 4);
        fault("b2;p10nr;", 4);
        fault("m0 0;", 1);
        fault("m13 0;", 1);
        fault("m1 100;", 3);
        fault("m1 05;", 3);
        fault("m1 00;", 3);
        fault("m01 0;", 1);
        fault("w0;", 1);
        fault("w61;", 1);
        fault("f31;", 1);
        fault("f00;", 1);
        fault("f99999999999999999999;", 1);
        fault("f4294967296;", 1);
        fault("b 100", 2);
        fault("b2;p1n100;", 6);
        reads("b12;", 1);
        reads("m12 99;", 1);
        reads("m1 0;", 1);
    }

    private static void scoreTellsAnew() {
        PaidRests x = playedDuet();
        x.sleeps(0, 1, 1);
        x.evening();
        x.sleeps(0, 1, 1);
        x.noted(0, 3);
        x.keep(0);
        x.keep(1);
        x.share(-1);
        due.is("4: rate(0, 0)", 2, x.rate(0, 0));
        due.is("4: read anew", 4, Due.tell(x, "b2;p1nr;m1 0;m1 0;"));
        due.is("4: part(0, 2)", NONE, x.part(0, 2));
        due.is("4: now(0)", 0, x.now(0));
        due.is("4: now(1)", 1, x.now(1));
        due.is("4: now(3)", 0, x.now(3));
        due.is("4: undo()", STATE, x.undo());
        due.is("4: player(0, 3)", 0, x.player(0, 3));
        due.is("4: coins(0, 1)", 0, x.coins(0, 1));
        due.is("4: count(5)", 0, x.count(5));
        due.is("4: back(0)", STATE, x.back(0));
        due.is("4: back(1)", STATE, x.back(1));
        due.is("4: PURSE at first", 12, x.count(3));
        due.is("4: FINE at first", 5, x.count(4));
        due.is("4: share(-1)", 6, x.share(-1));
        due.is("4: what was traced stays", 1, x.trace());
        due.is("4: read anew", 4, Due.tell(x, "b3;w30;f30;m1 0;"));
        due.is("4: no text tells nothing", 0, x.score());
        due.is("4: count(3)", 12, x.count(3));
        due.is("4: count(4)", 5, x.count(4));
        due.is("4: count(0)", 0, x.count(0));
        due.is("4: count(1)", 0, x.count(1));
        due.is("4: count(2)", 8, x.count(2));
        due.is("4: share(-1)", NONE, x.share(-1));
    }

    // ---- 5 .. 8

    private static void part() {
        PaidRests x = duet();
        due.is("5: part(0, 0)", 3, x.part(0, 0));
        due.is("5: part(1, 0)", 5, x.part(1, 0));
        due.is("5: part(0, 1)", 3, x.part(0, 1));
        due.is("5: part(1, 1)", 6, x.part(1, 1));
        due.is("5: part(0, 2)", NONE, x.part(0, 2));
        x.gives(0, 2);
        due.is("5: part(0, 2)", 2, x.part(0, 2));
        due.is("5: part(1, 2)", NONE, x.part(1, 2));
        for (int wrong : new int[] {-1, 2, LOW, HIGH}) {
            due.is("5: part(" + wrong + ", 0)", BAD, x.part(wrong, 0));
        }
        for (int wrong : new int[] {-1, 3, LOW, HIGH}) {
            due.is("5: part(0, " + wrong + ")", BAD, x.part(0, wrong));
        }
    }

    private static void player() {
        PaidRests x = playedDuet();
        int[][] all = {{2, 5, 3, 0, 1, 0, 1}, {1, 0, 6, 0, 1, 1, 2}, {9, 30, 0, 0, 0, 0, 0}};
        for (int m = 0; m < 3; m++) {
            for (int what = 0; what < 7; what++) {
                due.is("6: player(" + m + ", " + what + ")", all[m][what], x.player(m, what));
            }
        }
        x.sleeps(1, 2, 1);
        x.sleeps(1, 3, 1);
        due.is("6: DUTY is the same asleep", 6, x.player(1, 2));
        due.is("6: ASLEEP", 12, x.player(1, 3));
        due.is("6: who should play is OUT OF BREATH, asleep or not", 1, x.player(1, 5));
        x.gives(0, 1);
        due.is("6: DUTY of two parts", 7, x.player(1, 2));
        due.is("6: two parts", 3, x.player(1, 6));
        PaidRests y = due.told("b4;p1nnrn;m2 24;m2 25;", 4);
        y.gives(0, 0);
        due.is("6: as many bars as LUNG", 0, y.player(0, 5));
        due.is("6: PAY just below NEEDS", 0, y.player(0, 4));
        due.is("6: PAY above NEEDS", 1, y.player(1, 4));
        PaidRests z = due.told("b2;m1 24;m1 12;", 3);
        due.is("6: 12 is below 24", 0, z.player(0, 4));
        due.is("6: PAY just NEEDS", 1, z.player(1, 4));
        due.is("6: PAY is 1 below NEEDS", 0, due.told("b1;m1 13;", 2).player(0, 4));
        for (int wrong : new int[] {-1, 3, LOW, HIGH}) {
            due.is("6: player(" + wrong + ", 0)", BAD, x.player(wrong, 0));
        }
        for (int wrong : new int[] {-1, 7, LOW, HIGH}) {
            due.is("6: player(0, " + wrong + ")", BAD, x.player(0, wrong));
        }
    }

    private static void coins() {
        PaidRests x = duet();
        for (int m = 0; m < 3; m++) {
            due.is("7: all rest: coins(" + m + ", 0)", 16, x.coins(m, 0));
        }
        x.gives(0, 0);
        x.gives(1, 1);
        due.is("7: coins(0, 0)", 10, x.coins(0, 0));
        due.is("7: coins(1, 0)", 10, x.coins(1, 0));
        due.is("7: coins(2, 0)", 28, x.coins(2, 0));
        x.sleeps(0, 1, 1);
        due.is("7: asleep: coins(0, 0)", 12, x.coins(0, 0));
        due.is("7: asleep: coins(1, 0)", 10, x.coins(1, 0));
        due.is("7: asleep: coins(2, 0)", 22, x.coins(2, 0));
        x.sleeps(0, 3, 1);
        due.is("7: no FINE where he should not play", 12, x.coins(0, 0));
        due.is("7: coins(0, 1)", 0, x.coins(0, 1));
        x.evening();
        due.is("7: coins(0, 1)", 7, x.coins(0, 1));
        due.is("7: coins(1, 1)", 10, x.coins(1, 1));
        due.is("7: coins(2, 1)", -8, x.coins(2, 1));
        PaidRests y = due.told("b1;p1n;m1 0;m1 0;m1 0;w11;f30;", 7);
        due.is("7: shares are cut", 3, y.coins(0, 0));
        y.gives(0, 0);
        y.sleeps(0, 0, 1);
        due.is("7: PAY below 0", -27, y.coins(0, 0));
        due.is("7: the others' PAY", 3, y.coins(1, 0));
        PaidRests five = quintet(0);
        int[] pays = {16, 22, 22, 28, 28};
        for (int m = 0; m < 5; m++) {
            due.is("7: of five: coins(" + m + ", 0)", pays[m], five.coins(m, 0));
        }
        for (int wrong : new int[] {-1, 3, LOW, HIGH}) {
            due.is("7: coins(" + wrong + ", 0)", NO, x.coins(wrong, 0));
        }
        for (int wrong : new int[] {-1, 2, LOW, HIGH}) {
            due.is("7: coins(0, " + wrong + ")", NO, x.coins(0, wrong));
        }
    }

    private static void now() {
        PaidRests x = duet();
        due.is("8: now(0)", 0, x.now(0));
        due.is("8: now(1)", 3, x.now(1));
        due.is("8: now(2)", 12, x.now(2));
        due.is("8: now(3)", 0, x.now(3));
        x.gives(0, 0);
        due.is("8: now(1)", 2, x.now(1));
        x.gives(1, 1);
        due.is("8: now(2)", 8, x.now(2));
        x.sleeps(1, 1, 1);
        due.is("8: now(2)", 9, x.now(2));
        x.sleeps(1, 3, 1);
        due.is("8: he rests in it once", 9, x.now(2));
        x.evening();
        due.is("8: now(0)", 1, x.now(0));
        due.is("8: now(3)", 5, x.now(3));
        for (int wrong : new int[] {-1, 4, LOW, HIGH}) {
            due.is("8: now(" + wrong + ")", BAD, x.now(wrong));
        }
    }

    // ---- 9 .. 12

    private static void gives() {
        PaidRests x = duet();
        due.is("9: gives(0, 1)", NONE, x.gives(0, 1));
        due.is("9: gives(0, 2)", 1, x.gives(0, 2));
        due.is("9: gives(0, 2)", 2, x.gives(0, 2));
        due.is("9: gives(0, -1)", 2, x.gives(0, -1));
        due.is("9: gives(0, -1)", NONE, x.gives(0, -1));
        due.is("9: gives(0, 0)", NONE, x.gives(0, 0));
        due.is("9: each can be undone", 6, x.now(3));
        for (int wrong : new int[] {-1, 2, LOW, HIGH}) {
            due.is("9: gives(" + wrong + ", 0)", BAD, x.gives(wrong, 0));
        }
        for (int wrong : new int[] {-2, 3, LOW, HIGH}) {
            due.is("9: gives(0, " + wrong + ")", BAD, x.gives(0, wrong));
        }
        due.is("9: refused, nothing changes", 0, x.part(0, 2));
        due.is("9: refused, nothing to undo", 6, x.now(3));
    }

    private static void sleeps() {
        PaidRests x = playedDuet();
        due.is("10: sleeps(0, 1, 1)", 0, x.sleeps(0, 1, 1));
        due.is("10: sleeps(0, 1, 1)", 1, x.sleeps(0, 1, 1));
        due.is("10: sleeps(0, 3, 1)", 0, x.sleeps(0, 3, 1));
        due.is("10: player(0, 3)", 10, x.player(0, 3));
        due.is("10: player(1, 3)", 0, x.player(1, 3));
        due.is("10: sleeps(0, 1, 0)", 1, x.sleeps(0, 1, 0));
        due.is("10: sleeps(0, 1, 0)", 0, x.sleeps(0, 1, 0));
        due.is("10: player(0, 3)", 8, x.player(0, 3));
        due.is("10: each can be undone", 7, x.now(3));
        x.gives(0, 1);
        due.is("10: he sleeps on when parts go", 8, x.player(0, 3));
        for (int wrong : new int[] {-1, 3, LOW, HIGH}) {
            due.is("10: sleeps(" + wrong + ", 0, 1)", BAD, x.sleeps(wrong, 0, 1));
        }
        for (int wrong : new int[] {-1, 4, LOW, HIGH}) {
            due.is("10: sleeps(0, " + wrong + ", 1)", BAD, x.sleeps(0, wrong, 1));
        }
        for (int wrong : new int[] {-1, 2, LOW, HIGH}) {
            due.is("10: sleeps(0, 0, " + wrong + ")", BAD, x.sleeps(0, 0, wrong));
        }
        due.is("10: refused, nothing changes", 8, x.player(0, 3));
        due.is("10: refused, nothing to undo", 8, x.now(3));
    }

    private static void evening() {
        PaidRests x = playedDuet();
        x.sleeps(1, 1, 1);
        x.noted(1, 3);
        due.is("11: two lived", 2, x.evening());
        due.is("11: now(0)", 1, x.now(0));
        due.is("11: nobody sleeps any more", 0, x.player(1, 3));
        due.is("11: the parts stay", 1, x.part(1, 2));
        due.is("11: what was NOTED stays", 1, x.count(5));
        due.is("11: who lived by it slept", 12, x.coins(1, 1));
        due.is("11: two live awake, too", 2, x.evening());
        due.is("11: coins(1, 1)", 22, x.coins(1, 1));
        due.is("11: without players", 0, new PaidRests().evening());
        PaidRests y = new PaidRests();
        for (int i = 0; i < 999; i++) {
            y.evening();
        }
        due.is("11: now(0)", 999, y.now(0));
        due.is("11: it is EVENING 999", STATE, y.evening());
        due.is("11: refused, nothing changes", 999, y.now(0));
        due.is("11: refused, undone is the one before", 9, y.undo());
        due.is("11: now(0)", 998, y.now(0));
    }

    private static void eveningSaves() {
        PaidRests x = due.told("b1;m1 99;w1;", 3);
        for (int i = 0; i < 102; i++) {
            x.evening();
        }
        due.is("11: 102 evenings", -9996, x.coins(0, 1));
        x.evening();
        due.is("11: no less than -9999", -9999, x.coins(0, 1));
        PaidRests y = due.told("b12;m1 0;w60;", 3);
        for (int i = 0; i < 13; i++) {
            y.evening();
        }
        due.is("11: 13 evenings", 9360, y.coins(0, 1));
        y.evening();
        due.is("11: no more than 9999", 9999, y.coins(0, 1));
        due.is("11: undone", 9, y.undo());
        due.is("11: as before", 9360, y.coins(0, 1));
    }

    private static void undo() {
        PaidRests x = duet();
        due.is("12: none", STATE, x.undo());
        x.gives(0, 1);
        x.gives(0, 2);
        x.sleeps(2, 0, 1);
        x.sleeps(2, 0, 0);
        x.sleeps(2, 1, 1);
        x.evening();
        due.is("12: an evening", 5, x.undo());
        due.is("12: now(0)", 0, x.now(0));
        due.is("12: player(2, 3)", 2, x.player(2, 3));
        due.is("12: coins(2, 1)", 0, x.coins(2, 1));
        due.is("12: sleeps(2, 1, 1)", 4, x.undo());
        due.is("12: player(2, 3)", 0, x.player(2, 3));
        due.is("12: sleeps(2, 0, 0)", 3, x.undo());
        due.is("12: player(2, 3)", 1, x.player(2, 3));
        due.is("12: sleeps(2, 0, 1)", 2, x.undo());
        due.is("12: gives(0, 2)", 1, x.undo());
        due.is("12: part(0, 2)", 1, x.part(0, 2));
        due.is("12: gives(0, 1)", 0, x.undo());
        due.is("12: part(0, 2)", NONE, x.part(0, 2));
        due.is("12: none", STATE, x.undo());
        for (int i = 0; i < 13; i++) {
            x.evening();
        }
        due.is("12: 10 are known", 10, x.now(3));
        for (int left = 9; left >= 0; left--) {
            due.is("12: undo()", left, x.undo());
        }
        due.is("12: older ones are lost", STATE, x.undo());
        due.is("12: now(0)", 3, x.now(0));
        x.noted(0, 1);
        x.evening();
        x.forget();
        x.undo();
        due.is("12: what was NOTED is not touched", 0, x.count(5));
    }

    // ---- 13 .. 16

    private static void share() {
        due.is("13: no players", NONE, due.told("b1;p1n;", 2).share(-1));
        due.is("13: no players", NONE, due.told("b1;p1n;", 2).share(0));
        due.is("13: no parts, no players", NONE, new PaidRests().share(-1));
        due.is("13: no such part", NO, new PaidRests().share(0));
        due.is("13: no parts", 96, due.told("m1 96;", 1).share(-1));
        due.is("13: no parts, no living", NONE, due.told("m1 97;", 1).share(-1));
        PaidRests x = duet();
        due.is("13: nobody can", NONE, x.share(-1));
        due.is("13: nobody can", NONE, x.share(0));
        due.is("13: nobody can", NONE, x.share(1));
        for (int wrong : new int[] {-2, 2, LOW, HIGH}) {
            due.is("13: share(" + wrong + ")", NO, x.share(wrong));
        }
    }

    private static void shareIs(String text, int items, int least, int... players) {
        PaidRests x = due.told(text, items);
        for (int round = 0; round < 2; round++) {
            due.is("13: share(-1) of " + text, least, x.share(-1));
            for (int p = 0; p < players.length; p++) {
                due.is("13: share(" + p + ") of " + text, players[p], x.share(p));
            }
            // what is NOW is nothing to it
            x.gives(0, 1);
            x.sleeps(0, 0, 1);
        }
        due.is("13: nothing is changed", 1, x.part(0, 2));
        due.is("13: nothing is changed", 1, x.player(0, 3));
        due.is("13: nothing is changed but by those four", 4, x.now(3));
    }

    private static void shareChooses() {
        shareIs("b2;p1nr;p1rn;m1 0;m1 0;", 5, 12, 0, 1);
        due.is("13: the most that can be paid", 720, due.told("b12;m1 99;w60;", 3).share(-1));
        // all ways are alike: the first
        shareIs("b2;p1rr;p1rr;m1 0;m1 0;", 5, 12, 0, 0);
        // each has a bar of his own, in which he does not rest: 4 bars by 12 / 4
        shareIs("b5;p1rrrrn;p1rrrnr;p1rrnrr;p1rnrrr;p1nrrrr;m1 0;m1 0;m1 0;m1 0;m1 0;", 11, 12, 0, 1, 2, 3, 4);
        // alike for both, but the second one needs more than what he would have
        shareIs("b3;p1nnr;p1rrn;m9 0;m9 24;", 5, 12, 0, 1);
        shareIs("b3;p1nnr;p1rrn;m9 24;m9 0;", 5, 12, 1, 0);
        // the first is short of breath
        shareIs("b3;p1nnr;p1rrn;m1 0;m2 0;", 5, 12, 1, 0);
        // all to one would leave him nothing; if the others can't, it is so
        shareIs("b2;p1nn;p1nn;m2 0;m1 0;", 5, 0, 0, 0);
        shareIs("b2;p1nn;p1nn;m1 0;m2 0;", 5, 0, 1, 1);
        shareIs("b2;p1nn;p1nn;m1 0;m1 0;", 5, NONE, NONE, NONE);
        shareIs("b2;p1nn;p1nn;m2 1;m1 0;", 5, NONE, NONE, NONE);
        PaidRests x = due.told("b2;p1nr;p1rn;m1 0;m1 0;", 5);
        due.is("13: share(-1)", 12, x.share(-1));
        due.is("13: read anew", 4, Due.tell(x, "b1;p1r;m1 0;w7;"));
        due.is("13: share(-1) anew", 7, x.share(-1));
        due.is("13: share(1) anew", NO, x.share(1));
    }

    private static void costs() {
        PaidRests x = duet();
        due.is("14: nobody's", 0, x.costs(0));
        x.gives(0, 0);
        x.gives(1, 1);
        due.is("14: costs(0)", 10, x.costs(0));
        due.is("14: costs(1)", 10, x.costs(1));
        due.is("14: nothing is changed", 0, x.part(0, 2));
        x.sleeps(0, 1, 1);
        due.is("14: the FINE is part of it", 8, x.costs(0));
        x.gives(1, 0);
        // he has bars 0, 1, 2 and sleeps in 1: PAY 4+4-4; without part 0 he plays in 2: 4+4+4-4
        due.is("14: bar 1 is still his", 4, x.costs(0));
        for (int wrong : new int[] {-1, 2, LOW, HIGH}) {
            due.is("14: costs(" + wrong + ")", NO, x.costs(wrong));
        }
    }

    private static void exchange() {
        due.is("15: no parts", NONE, new PaidRests().exchange());
        PaidRests x = due.told("b2;p1nn;p1rr;p1nr;m9 0;m9 0;", 6);
        due.is("15: all nobody's", NONE, x.exchange());
        x.gives(0, 0);
        x.gives(2, 1);
        // bar 0 pays nobody: each of (0, 1), (1, 2) mends that, (0, 2) doesn't
        due.is("15: the first of two", 1, x.exchange());
        due.is("15: nothing is changed", 0, x.part(0, 2));
        x.gives(0, 1);
        x.gives(2, 0);
        due.is("15: of (0, 1), (1, 2) the first", 1, x.exchange());
        x.gives(1, 1);
        x.gives(2, 1);
        x.gives(0, 1);
        due.is("15: all one player's", NONE, x.exchange());
        PaidRests y = due.told("b3;p1nnn;p1nrr;p1rrr;p1rrn;m9 0;m9 0;", 7);
        y.gives(0, 0);
        y.gives(1, 1);
        y.gives(3, 1);
        // bars 0 and 2 pay nobody: by (0, 2) both are mended, by (1, 2) or (2, 3) one
        due.is("15: the most", 2, y.exchange());
        // asleep in bar 2 nobody is paid less by it but for the fine: 12 + 12 - 5; (0, 2) frees bar 0 alike
        y.sleeps(1, 2, 1);
        due.is("15: asleep", 2, y.exchange());
        PaidRests z = due.told("b1;p1n;p1r;p1r;m9 0;m9 0;", 6);
        z.gives(0, 0);
        z.gives(1, 1);
        due.is("15: not more than it is", NONE, z.exchange());
        PaidRests u = due.told("b2;p1rr;p1rr;p1rr;p1nn;p1nr;m9 0;m9 0;", 8);
        u.gives(3, 0);
        u.gives(4, 1);
        due.is("15: the first nobody's with 3", 3, u.exchange());
        PaidRests v = due.told("b1;p1n;p1n;p1n;p1r;m9 0;m9 0;", 7);
        v.gives(0, 0);
        v.gives(1, 0);
        v.gives(2, 1);
        due.is("15: player 0 plays on with either, player 1 has just 2", 23, v.exchange());
        v.gives(1, 1);
        v.gives(2, 1);
        due.is("15: now it is player 0 who has one", 3, v.exchange());
    }

    private static void leftOut() {
        PaidRests x = playedDuet();
        due.is("16: he LIVES", 0, x.leftOut(0, 0));
        due.is("16: he LIVES", 0, x.leftOut(0, 1));
        due.is("16: he plays nothing", NONE, x.leftOut(2, 0));
        due.is("16: he plays nothing", NONE, x.leftOut(2, 1));
        for (int wrong : new int[] {-1, 3, LOW, HIGH}) {
            due.is("16: leftOut(" + wrong + ", 0)", BAD, x.leftOut(wrong, 0));
        }
        for (int wrong : new int[] {-1, 2, LOW, HIGH}) {
            due.is("16: leftOut(0, " + wrong + ")", BAD, x.leftOut(0, wrong));
        }
        leftOutIs(6, 1, 1);
        leftOutIs(7, 1, 2);
        leftOutIs(12, 1, 2);
        leftOutIs(13, 2, 3);
        leftOutIs(18, 2, 3);
        leftOutIs(19, 2, 10);
        leftOutIs(24, 2, 10);
        leftOutIs(25, 3, 11);
        leftOutIs(36, 4, 15);
        leftOutIs(37, NONE, NONE);
        PaidRests y = due.told("b2;p1nn;m9 6;f7;", 4);
        y.gives(0, 0);
        y.sleeps(0, 0, 1);
        due.is("16: not where he sleeps: 12 - 7 + 12", 1, y.leftOut(0, 0));
        due.is("16: bar 1", 2, y.leftOut(0, 1));
        PaidRests z = due.told("b2;p1nn;m9 18;f7;", 4);
        z.gives(0, 0);
        z.sleeps(0, 0, 1);
        due.is("16: the FINE stays", NONE, z.leftOut(0, 0));
        PaidRests five = quintet(32);
        due.is("16: paid are 16", 16, five.coins(0, 0));
        due.is("16: bars 8 .. 11 bring 2, 2, 4, 12", 2, five.leftOut(0, 0));
        due.is("16: just 4 and 12 are enough", 3072, five.leftOut(0, 1));
        due.is("16: 2 and 12", 2304, quintet(30).leftOut(0, 1));
        due.is("16: 2 of the lowest", 256, quintet(18).leftOut(0, 1));
        due.is("16: all", 4, quintet(36).leftOut(0, 0));
        due.is("16: all are not enough", NONE, quintet(37).leftOut(0, 0));
    }

    /** Five players, all of whom play in bar 11, three in bar 10, just the first in bars 8, 9, nobody else. */
    private static PaidRests quintet(int needs) {
        String low = "rrrrrrrr";
        PaidRests x = due.told("b12;p1" + low + "nnnn;p1" + low + "rrnn;p1" + low + "rrnn;p1" + low + "rrrn;p1" + low
            + "rrrn;m9 " + needs + ";m9 0;m9 0;m9 0;m9 0;", 11);
        for (int p = 0; p < 5; p++) {
            x.gives(p, p);
        }
        return x;
    }

    /** Player 0 has four bars to leave out: they would bring 6, 12, 6, 12; he is paid nothing. */
    private static void leftOutIs(int needs, int many, int which) {
        PaidRests x = due.told("b4;p1nnnn;p1rnrn;m9 " + needs + ";m9 0;", 5);
        x.gives(0, 0);
        x.gives(1, 1);
        due.is("16: leftOut(0, 0) for " + needs, many, x.leftOut(0, 0));
        due.is("16: leftOut(0, 1) for " + needs, which, x.leftOut(0, 1));
        due.is("16: nothing is changed", 15, x.player(0, 2));
    }

    // ---- 17 .. 20

    private static void bars() {
        PaidRests x = playedDuet();
        due.is("17: bars(0)", 8, x.bars(0));
        due.is("17: bars(1)", 0, x.bars(1));
        due.is("17: bars(2)", 1, x.bars(2));
        PaidRests y = due.told("b7;p1nnrrnrr;p1rnnrnrr;m9 0;m9 0;", 5);
        y.gives(0, 0);
        due.is("17: nobody's part is not played", 108, y.bars(0));
        due.is("17: two runs of two", 2, y.bars(2));
        due.is("17: bars(1)", 0, y.bars(1));
        y.gives(1, 1);
        due.is("17: bars(0)", 104, y.bars(0));
        due.is("17: bars(1)", 18, y.bars(1));
        due.is("17: bars(2)", 2, y.bars(2));
        y.sleeps(0, 4, 1);
        due.is("17: who sleeps doesn't play", 2, y.bars(1));
        y.sleeps(1, 4, 1);
        due.is("17: all who should sleep", 120, y.bars(0));
        due.is("17: bars(2)", 4, y.bars(2));
        PaidRests z = due.told("b3;p1nnn;", 2);
        due.is("17: no players: bars(0)", 7, z.bars(0));
        due.is("17: no players: bars(1)", 0, z.bars(1));
        due.is("17: no players: bars(2)", 3, z.bars(2));
        for (int wrong : new int[] {-1, 3, LOW, HIGH}) {
            due.is("17: bars(" + wrong + ")", BAD, x.bars(wrong));
        }
    }

    private static void heard() {
        PaidRests x = duet();
        due.is("18: nobody's parts", 0, x.heard(1));
        x.gives(0, 0);
        x.gives(1, 1);
        int[] loud = {3, 8, 5, 0};
        for (int bar = 0; bar < 4; bar++) {
            due.is("18: heard(" + bar + ")", loud[bar], x.heard(bar));
        }
        x.sleeps(0, 1, 1);
        due.is("18: asleep in it", 5, x.heard(1));
        due.is("18: awake in another", 3, x.heard(0));
        x.gives(1, 0);
        due.is("18: both parts are his", 0, x.heard(1));
        x.sleeps(0, 1, 0);
        due.is("18: both parts are his", 8, x.heard(1));
        for (int wrong : new int[] {-1, 4, LOW, HIGH}) {
            due.is("18: heard(" + wrong + ")", BAD, x.heard(wrong));
        }
    }

    private static void rests() {
        PaidRests x = playedDuet();
        int[] resters = {2, 1, 2, 3};
        for (int bar = 0; bar < 4; bar++) {
            due.is("19: rests(" + bar + ")", resters[bar], x.rests(bar));
        }
        x.sleeps(0, 1, 1);
        due.is("19: asleep", 2, x.rests(1));
        x.sleeps(0, 3, 1);
        due.is("19: he rests anyway", 3, x.rests(3));
        due.is("19: no players", 0, new PaidRests().rests(0));
        for (int wrong : new int[] {-1, 4, LOW, HIGH}) {
            due.is("19: rests(" + wrong + ")", BAD, x.rests(wrong));
        }
    }

    private static void first() {
        due.is("20: no players", NONE, new PaidRests().first());
        PaidRests x = duet();
        due.is("20: nobody plays", 0, x.first());
        x.gives(1, 2);
        due.is("20: first()", 2, x.first());
        x.gives(0, 1);
        due.is("20: of two the lowest", 1, x.first());
        x.sleeps(1, 0, 1);
        due.is("20: asleep he doesn't play", 2, x.first());
        x.gives(0, 2);
        x.sleeps(2, 1, 1);
        x.sleeps(2, 2, 1);
        x.gives(1, 0);
        due.is("20: first()", 0, x.first());
    }

    // ---- 21 .. 23

    private static void noted() {
        PaidRests x = playedDuet();
        due.is("22: forget()", 0, x.forget());
        for (int wrong : new int[] {-1, 4, LOW, HIGH}) {
            due.is("21: noted(" + wrong + ", 0)", BAD, x.noted(wrong, 0));
        }
        for (int wrong : new int[] {-1, 46, LOW, HIGH}) {
            due.is("21: noted(0, " + wrong + ")", BAD, x.noted(0, wrong));
        }
        due.is("21: refused, nothing changes", 0, x.count(5));
        due.is("21: noted(3, 45)", 1, x.noted(3, 45));
        for (int i = 2; i <= 6; i++) {
            due.is("21: noted(0, 0)", i, x.noted(0, 0));
        }
        due.is("21: six at most", FULL, x.noted(0, 0));
        due.is("21: BAD goes ahead of FULL", BAD, x.noted(4, 0));
        due.is("21: count(5)", 6, x.count(5));
        due.is("22: forget()", 6, x.forget());
        due.is("22: count(5)", 0, x.count(5));
        due.is("22: forget()", 0, x.forget());
        due.is("22: nothing is left of it", 7 + 32, x.who());
        due.is("21: noted(0, 0)", 1, x.noted(0, 0));
    }

    private static void who() {
        PaidRests x = playedDuet();
        due.is("23: nothing is NOTED", 39, x.who());
        x.noted(1, 8);
        due.is("23: nobody, or who plays nothing", 36, x.who());
        x.forget();
        x.noted(1, 5);
        due.is("23: player 0", 1, x.who());
        x.noted(2, 5);
        due.is("23: player 0", 1, x.who());
        x.noted(0, 3);
        due.is("23: not in all bars", 0, x.who());
        x.forget();
        x.noted(3, 0);
        due.is("23: silence tells nothing", 39, x.who());
        x.sleeps(0, 1, 1);
        x.noted(1, 8);
        due.is("23: who is ASLEEP NOW is nothing to it", 36, x.who());
        x.forget();
        x.noted(1, 8);
        x.noted(1, 5);
        due.is("23: both can't be", 0, x.who());
        due.is("23: no players", 32, new PaidRests().who());
        PaidRests y = due.told("b1;p9n;p9n;m1 0;m1 0;m1 0;m1 0;m1 0;", 8);
        y.gives(0, 4);
        y.gives(1, 3);
        y.noted(0, 9);
        due.is("23: players 3, 4", 24, y.who());
    }

    // ---- 24 .. 26

    private static final String TWO = "b2;p1nn;m9 0;m9 10;w10;f0;";

    private static void broke() {
        due.is("24: no players", NONE, new PaidRests().broke());
        due.is("24: broke at once", 1, due.told("b1;m1 20;w10;", 3).broke());
        PaidRests x = due.told(TWO, 6);
        due.is("24: never", NONE, x.broke());
        x.gives(0, 0);
        x.evening();
        due.is("24: 0 and 10 are saved", 10, x.coins(1, 1));
        x.gives(0, 1);
        due.is("24: 10, 0, -10", 2, x.broke());
        x.sleeps(1, 0, 1);
        x.sleeps(1, 1, 1);
        due.is("24: asleep the first evening: 10, 10, 0, -10", 3, x.broke());
        due.is("24: nothing is changed", 3, x.player(1, 3));
        due.is("24: nothing is changed", 10, x.coins(1, 1));
        x.evening();
        x.evening();
        x.evening();
        due.is("24: somebody has", 0, x.broke());
        due.is("24: saved", -10, x.coins(1, 1));
        PaidRests y = due.told("b12;p1nnnnnnnnnnnn;m12 34;m1 0;w60;f0;", 6);
        for (int i = 0; i < 30; i++) {
            y.evening();
        }
        y.gives(0, 0);
        due.is("24: 9780 saved, 34 less each evening", 288, y.broke());
        for (int bar = 0; bar < 12; bar++) {
            y.sleeps(0, bar, 1);
        }
        due.is("24: the first brings 9999 at most", 296, y.broke());
        PaidRests z = due.told("b1;p1n;m1 9;m1 0;w60;f0;", 6);
        for (int i = 0; i < 128; i++) {
            z.evening();
        }
        due.is("24: saved", 2688, z.coins(0, 1));
        z.gives(0, 0);
        due.is("24: 298 evenings bring 2682", 299, z.broke());
        z.undo();
        z.evening();
        z.gives(0, 0);
        due.is("24: 2709 last 301 evenings", NONE, z.broke());
        PaidRests u = due.told("b1;p1n;m1 1;m1 0;w9;f0;", 6);
        due.is("24: never", NONE, u.broke());
        for (int i = 0; i < 100; i++) {
            u.evening();
        }
        u.gives(0, 0);
        due.is("24: 300 saved", 300, u.coins(0, 1));
        due.is("24: in 301 evenings", NONE, u.broke());
        u.evening();
        due.is("24: in 300 evenings", 300, u.broke());
        due.is("24: it is 1 less than 0", 1, due.told("b1;m1 13;", 2).broke());
    }

    private static void rich() {
        due.is("25: no players", 0, new PaidRests().rich(999));
        PaidRests x = due.told(TWO, 6);
        due.is("25: one gains nothing", NONE, x.rich(1));
        x.evening();
        x.evening();
        x.evening();
        x.gives(0, 0);
        due.is("25: rich(30)", 3, x.rich(30));
        due.is("25: rich(21)", 3, x.rich(21));
        due.is("25: rich(20)", 2, x.rich(20));
        due.is("25: rich(31)", NONE, x.rich(31));
        x.sleeps(0, 0, 1);
        due.is("25: asleep the first evening: 35", 4, x.rich(31));
        due.is("25: rich(36)", NONE, x.rich(36));
        due.is("25: asleep the first evening: 5, 15", 2, x.rich(10));
        x.evening();
        due.is("25: all have", 0, x.rich(5));
        due.is("25: rich(6)", 1, x.rich(6));
        due.is("25: nothing is changed", 5, x.coins(1, 1));
        PaidRests y = due.told("b1;m1 0;w1;", 3);
        due.is("25: rich(300)", 300, y.rich(300));
        due.is("25: rich(301)", NONE, y.rich(301));
        due.is("25: rich(1)", 1, y.rich(1));
        y.evening();
        due.is("25: rich(301)", 300, y.rich(301));
        for (int wrong : new int[] {0, -1, 1000, LOW, HIGH}) {
            due.is("25: rich(" + wrong + ")", BAD, x.rich(wrong));
        }
        due.is("25: rich(999)", NONE, x.rich(999));
    }

    private static void oddsAre(PaidRests x, int bar, int p, int v, int upper, int lower) {
        String call = "26: odds(" + bar + ", " + p + ", " + v + ", ";
        due.is(call + "0)", upper, x.odds(bar, p, v, 0));
        due.is(call + "1)", lower, x.odds(bar, p, v, 1));
    }

    private static void odds() {
        PaidRests x = playedDuet();
        for (int round = 0; round < 2; round++) {
            oddsAre(x, 1, 3, 8, 49, 100);
            oddsAre(x, 1, 3, 9, 0, 1);
            oddsAre(x, 1, 3, 4, 7, 10);
            oddsAre(x, 1, 3, 3, 91, 100);
            oddsAre(x, 1, 3, 0, 1, 1);
            oddsAre(x, 1, 5, 8, 1, 4);
            oddsAre(x, 1, 0, 8, 1, 1);
            oddsAre(x, 1, 10, 1, 0, 1);
            oddsAre(x, 1, 10, 0, 1, 1);
            oddsAre(x, 0, 4, 3, 3, 5);
            oddsAre(x, 3, 4, 1, 0, 1);
            oddsAre(x, 3, 4, 0, 1, 1);
            oddsAre(x, 1, 4, 46, 0, 1);
            // whatever he does NOW
            x.sleeps(0, 1, 1);
            x.sleeps(1, 0, 1);
        }
        x.gives(1, 0);
        oddsAre(x, 1, 3, 8, 7, 10);
        oddsAre(x, 1, 3, 1, 7, 10);
        PaidRests y = due.told("b1;p9n;p9n;p9n;p9n;p9n;m1 0;m1 0;m1 0;m1 0;m1 0;", 11);
        for (int p = 0; p < 5; p++) {
            y.gives(p, p);
        }
        oddsAre(y, 0, 3, 45, 16807, 100000);
        oddsAre(y, 0, 1, 1, 99999, 100000);
        oddsAre(y, 0, 5, 28, 3, 16);
        oddsAre(y, 0, 5, 27, 1, 2);
        oddsAre(y, 0, 5, 46, 0, 1);
        oddsAre(new PaidRests(), 7, 5, 0, 1, 1);
        oddsAre(new PaidRests(), 7, 5, 1, 0, 1);
        int[][] wrong = {{-1, 0, 0, 0}, {4, 0, 0, 0}, {0, -1, 0, 0}, {0, 11, 0, 0}, {0, 0, -1, 0}, {0, 0, 47, 0},
            {0, 0, 0, -1}, {0, 0, 0, 2}, {LOW, 0, 0, 0}, {HIGH, 0, 0, 0}, {0, LOW, 0, 0}, {0, 0, HIGH, 0}};
        for (int[] w : wrong) {
            due.is("26: odds(" + w[0] + ", " + w[1] + ", " + w[2] + ", " + w[3] + ")", BAD, x.odds(w[0], w[1], w[2], w[3]));
        }
    }

    // ---- 27, 31

    private static void rate() {
        PaidRests x = playedDuet();
        x.evening();
        x.evening();
        x.evening();
        int[] rates = {2, 2 + 5, 2 - 10, 2 * (2 + 5), 2 - 10 + 1, 2 + 3};
        int[] adds = {1, 11, 101, 1011, 10101, 100001};
        long trace = 0;
        for (int kind = 0; kind < 6; kind++) {
            due.is("27: rate(" + kind + ", 1)", rates[kind], x.rate(kind, 1));
            trace += adds[kind];
            due.is("31: trace() behind rate(" + kind + ", 1)", trace, x.trace());
        }
        due.is("27: rate(4, 0)", 2 - 10, x.rate(4, 0));
        trace += 10101;
        for (int wrong : new int[] {-1, 6, LOW, HIGH}) {
            due.is("27: rate(" + wrong + ", 0)", NO, x.rate(wrong, 0));
        }
        for (int wrong : new int[] {-1, 2, LOW, HIGH}) {
            due.is("27: rate(0, " + wrong + ")", NO, x.rate(0, wrong));
        }
        due.is("31: refused, nothing is added", trace, x.trace());
        x.costs(0);
        due.is("31: just rate() adds", trace, x.trace());
        x.gives(1, -1);
        due.is("27: nobody's costs nothing", 2, x.rate(2, 1));
        x.keep(0);
        x.back(0);
        due.is("31: no image has it", trace + 101, x.trace());
    }

    // ---- 28, 29

    private static void images() {
        PaidRests x = duet();
        for (int wrong : new int[] {-1, 2, LOW, HIGH}) {
            due.is("28: keep(" + wrong + ")", BAD, x.keep(wrong));
            due.is("29: back(" + wrong + ")", BAD, x.back(wrong));
        }
        due.is("29: none was kept", STATE, x.back(0));
        due.is("29: none was kept", STATE, x.back(1));
        x.gives(0, 0);
        x.evening();
        x.sleeps(0, 1, 1);
        due.is("28: keep(0)", 1, x.keep(0));
        due.is("28: nothing else changes", 3, x.now(3));
        due.is("29: the other is none yet", STATE, x.back(1));
        due.is("29: refused, nothing changes", 3, x.now(3));
        int saved = x.coins(0, 1);
        x.evening();
        x.gives(0, 1);
        x.gives(1, 1);
        x.noted(0, 7);
        due.is("28: keep(1)", 2, x.keep(1));
        due.is("29: back(0)", 1, x.back(0));
        due.is("29: part(0, 2)", 0, x.part(0, 2));
        due.is("29: part(1, 2)", NONE, x.part(1, 2));
        due.is("29: player(0, 3)", 2, x.player(0, 3));
        due.is("29: coins(0, 1)", saved, x.coins(0, 1));
        due.is("29: what was NOTED stays", 1, x.count(5));
        due.is("29: nothing can be UNDONE", 0, x.now(3));
        due.is("29: nothing can be UNDONE", STATE, x.undo());
        x.gives(0, 2);
        due.is("29: but what comes then", 0, x.undo());
        due.is("29: back(1)", 2, x.back(1));
        due.is("29: part(1, 2)", 1, x.part(1, 2));
        due.is("29: player(0, 3)", 0, x.player(0, 3));
        x.gives(1, 2);
        due.is("29: an image stays", 2, x.back(1));
        due.is("29: an image stays as it was", 1, x.part(1, 2));
        due.is("28: kept anew", 2, x.keep(0));
        due.is("29: back(0)", 2, x.back(0));
        due.is("29: part(0, 2)", 1, x.part(0, 2));
    }

    // ---- 30

    private static void count() {
        PaidRests x = due.told("b3;p1nnn;p2rrr;m1 0;w30;f0;", 6);
        x.noted(0, 0);
        x.type('b');
        x.type('b');
        int[] counts = {2, 1, 3, 30, 0, 1, 2};
        for (int what = 0; what < counts.length; what++) {
            due.is("30: count(" + what + ")", counts[what], x.count(what));
        }
        for (int wrong : new int[] {-1, 7, LOW, HIGH}) {
            due.is("30: count(" + wrong + ")", BAD, x.count(wrong));
        }
    }
}
