import java.util.ArrayList;
import java.util.List;

/**
 * "Refused, and nothing changes, the first of these: BAD, STATE, FULL", and "(Nothing is changed.)" of all that
 * just asks. Two objects have the same calls, one of them the call in question besides: from then on both must
 * answer alike, whatever is asked, undone, taken from an IMAGE and read.
 */
public final class RefusalTest {
    private static final int[] ODD = {Integer.MIN_VALUE, -1000000, -33, -32, -9, -2, -1, 5, 12, 13, 31, 32, 33, 47, 64, 256, 1000,
        1000000, Integer.MAX_VALUE};
    private static final String SCORE = "b4;p3nnrr;p5rnnr;p1nnnn;m2 5;m1 0;m9 30;w12;f4;";
    private static final String HALF = "b3;p2nrn;m1 0";
    private static final Edges edge = new Edges();

    public static void main(String[] args) {
        bad();
        state();
        full();
        faults();
        badAheadOfState();
        badAheadOfFull();
        nothingIsChanged();
        edge.end("RefusalTest");
    }

    // ---- objects alike

    /**
     * How far an object has come: 0 is new, each later one has more of all that could be changed. What is NOTED
     * agrees with somebody's sleep, so that who() would tell if it were changed; image 1 is kept from the third on.
     */
    private static PaidRests come(int far) {
        PaidRests x = new PaidRests();
        if (far >= 1) {
            Due.tell(x, SCORE);
        }
        if (far >= 2) {
            all(x, "gives(0,0) gives(1,1) sleeps(1,1,1) evening() sleeps(0,0,1) noted(1,6) rate(4,1) keep(0) gives(2,2)");
        }
        if (far >= 3) {
            all(x, "keep(1) evening() evening() evening() evening() evening() sleeps(2,3,1) gives(0,-1) sleeps(1,0,1)"
                + " noted(0,1) noted(0,1) noted(2,6) noted(3,1) noted(3,1)");
        }
        for (int i = 0; far >= 2 && i < HALF.length(); i++) {
            x.type(HALF.charAt(i));
        }
        for (int i = HALF.length(); far >= 3 && i < 200; i++) {
            x.type(' ');
        }
        return x;
    }

    private static void all(PaidRests x, String calls) {
        for (String call : calls.split(" ")) {
            Edges.ask(x, call);
        }
    }

    /** All that can be asked, then again behind each undo(), each IMAGE and a text that is read. */
    private static List<Long> everything(PaidRests x) {
        List<Long> seen = new ArrayList<>();
        look(x, seen);
        for (int i = 0; i < 12; i++) {
            seen.add((long) x.undo());
            look(x, seen);
        }
        for (int image = 0; image < 2; image++) {
            seen.add((long) x.back(image));
            look(x, seen);
        }
        seen.add((long) x.score());
        seen.add((long) x.type(';'));
        seen.add((long) x.score());
        look(x, seen);
        seen.add((long) x.clear());
        return seen;
    }

    private static void look(PaidRests x, List<Long> seen) {
        for (int what = 0; what < 7; what++) {
            seen.add((long) x.count(what));
            seen.add((long) x.now(what));
            seen.add((long) x.bars(what));
            for (int i = 0; i < 5; i++) {
                seen.add((long) x.part(i, what));
                seen.add((long) x.player(i, what));
                seen.add((long) x.coins(i, what));
                seen.add((long) x.leftOut(i, what));
            }
        }
        for (int i = -1; i < 12; i++) {
            seen.add((long) x.share(i));
            seen.add((long) x.costs(i));
            seen.add((long) x.heard(i));
            seen.add((long) x.rests(i));
            seen.add((long) x.odds(i, 3, 4, 0));
        }
        for (int one : new int[] {x.exchange(), x.first(), x.who(), x.broke(), x.rich(1), x.rich(40), x.rich(999)}) {
            seen.add((long) one);
        }
        seen.add(x.trace());
    }

    /** The call is answered as due, and then the object is as one that has never had it. */
    private static void leavesAll(int far, String call, long due) {
        PaidRests with = come(far), without = come(far);
        edge.is(call + " on object " + far, due, Edges.ask(with, call));
        edge.is("the same again: " + call + " on object " + far, due, Edges.ask(with, call));
        edge.is("nothing changes by " + call + " on object " + far, 1, everything(with).equals(everything(without)) ? 1 : 0);
    }

    // ---- what is refused

    private static void bad() {
        edge.sentence("BAD (a number is not as told, or there is no such thing)");
        String[] calls = {"type(#)", "part(#,0)", "part(0,#)", "player(#,0)", "player(0,#)", "now(#)", "gives(#,0)", "gives(0,#)",
            "gives(#,-1)", "sleeps(#,0,1)", "sleeps(0,#,1)", "sleeps(0,0,#)", "leftOut(#,0)", "leftOut(0,#)", "bars(#)", "heard(#)",
            "rests(#)", "noted(#,0)", "noted(0,#)", "rich(#)", "odds(#,0,0,0)", "odds(0,#,0,0)", "odds(0,0,#,0)", "odds(0,0,0,#)",
            "keep(#)", "back(#)", "count(#)"};
        String[] noes = {"coins(#,0)", "coins(0,#)", "share(#)", "costs(#)", "rate(#,0)", "rate(0,#)"};
        for (int odd : ODD) {
            for (String call : calls) {
                if (!isTold(call, odd)) {
                    for (int far = 1; far <= 3; far++) leavesAll(far, call.replace("#", Integer.toString(odd)), Edges.BAD);
                }
            }
            for (String call : noes) {
                if (!isTold(call, odd)) {
                    for (int far = 1; far <= 3; far++) leavesAll(far, call.replace("#", Integer.toString(odd)), Edges.NO);
                }
            }
        }
        for (String call : new String[] {"part(0,0)", "player(0,0)", "gives(0,-1)", "sleeps(0,0,1)", "leftOut(0,0)", "heard(8)"}) {
            leavesAll(0, call, Edges.BAD);
        }
        for (String call : new String[] {"coins(0,0)", "share(0)", "costs(0)", "rate(0,0)"}) {
            leavesAll(0, call, Edges.NO);
        }
    }

    /** Of the odd numbers those that this place of a call may have all the same. */
    private static boolean isTold(String call, int odd) {
        switch (call) {
            case "type(#)": return odd >= 0 && odd <= 255;
            case "player(0,#)": case "count(#)": case "rate(#,0)": return odd == 5;
            case "gives(0,#)": case "share(#)": return odd == -1;
            case "noted(0,#)": return odd >= 0 && odd <= 45;
            case "rich(#)": return odd >= 1 && odd <= 999;
            case "odds(0,#,0,0)": return odd == 5;
            case "odds(0,0,#,0)": return odd >= 0 && odd <= 46;
            default: return false;
        }
    }

    private static void state() {
        edge.sentence("STATE (as told)");
        leavesAll(0, "undo()", Edges.STATE);
        leavesAll(1, "undo()", Edges.STATE);
        for (int image = 0; image < 2; image++) {
            leavesAll(0, "back(" + image + ")", Edges.STATE);
            leavesAll(1, "back(" + image + ")", Edges.STATE);
        }
        leavesAll(2, "back(1)", Edges.STATE);
        edge.is("who() of object 2", 1, come(2).who());
        edge.is("who() of object 3", 33, come(3).who());
        PaidRests with = come(2), without = come(2);
        for (int i = 1; i < 999; i++) {
            edge.is("evening " + i, without.evening(), with.evening());
        }
        edge.is("evening()", Edges.STATE, with.evening());
        edge.is("nothing changes by evening()", 1, everything(with).equals(everything(without)) ? 1 : 0);
    }

    private static void full() {
        edge.sentence("FULL");
        for (int letter : new int[] {0, 32, 59, 255}) {
            leavesAll(3, "type(" + letter + ")", Edges.FULL);
        }
        for (int bar = 0; bar < 4; bar++) {
            leavesAll(3, "noted(" + bar + "," + 15 * bar + ")", Edges.FULL);
        }
    }

    private static void faults() {
        edge.sentence("-10 less FAULT: nothing changes.");
        leavesAll(2, "score()", -10 - HALF.length());
        leavesAll(3, "score()", -210);
        for (String text : new String[] {"b12;w60;f30;x", "w1;f0;b2;", "b1;p9n;p9n;p9n;p9n;p9n;p", "m9 9;m9 9;m9 9;m9 9;m9 9;m", "b1;p1nn;"}) {
            PaidRests with = come(2), without = come(2);
            with.clear();
            without.clear();
            edge.is("a FAULT in " + text, 1, Due.tell(with, text) <= -10 ? 1 : 0);
            for (char letter : text.toCharArray()) {
                without.type(letter);
            }
            edge.is("nothing changes by " + text, 1, everything(with).equals(everything(without)) ? 1 : 0);
        }
    }

    private static void badAheadOfState() {
        edge.sentence("the first of these: BAD .., STATE");
        for (int image : new int[] {-1, 2, Edges.LOW, Edges.HIGH}) {
            leavesAll(0, "back(" + image + ")", Edges.BAD);
            leavesAll(2, "back(" + image + ")", Edges.BAD);
        }
    }

    private static void badAheadOfFull() {
        edge.sentence("the first of these: BAD .., STATE (as told), FULL.");
        for (String call : new String[] {"type(-1)", "type(256)", "noted(4,0)", "noted(-1,0)", "noted(0,46)", "noted(0,-1)"}) {
            leavesAll(3, call, Edges.BAD);
        }
    }

    // ---- what just asks

    private static void nothingIsChanged() {
        edge.sentence("(Nothing is changed.)");
        String[] calls = {"part(0,2)", "player(0,4)", "coins(1,0)", "now(2)", "share(-1)", "share(0)", "costs(0)", "costs(1)", "exchange()",
            "leftOut(0,0)", "leftOut(2,1)", "bars(0)", "bars(1)", "bars(2)", "heard(1)", "rests(1)", "first()", "who()", "broke()",
            "rich(40)", "rich(999)", "odds(1,3,4,0)", "odds(1,3,4,1)", "count(5)", "trace()"};
        for (int far = 0; far <= 3; far++) {
            for (String call : calls) {
                PaidRests once = come(far), twice = come(far), never = come(far);
                long answer = Edges.ask(once, call);
                edge.is("the first answer: " + call + " of object " + far, answer, Edges.ask(twice, call));
                edge.is("the second answer: " + call + " of object " + far, answer, Edges.ask(twice, call));
                edge.is("nothing is changed by " + call + " of object " + far, 1, everything(twice).equals(everything(never)) ? 1 : 0);
            }
        }
    }
}
