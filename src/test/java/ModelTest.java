/** Runs of made-up calls, the same each time, on PaidRests and on the plain model: all answers must be alike. */
public final class ModelTest {
    private static final int RUNS = 1500;
    private static final int CALLS = 260;

    private final Due due = new Due();
    private long seed = 20261118L;
    private PaidRests x;
    private NaiveModel y;
    private String run = "";

    public static void main(String[] args) {
        ModelTest test = new ModelTest();
        for (int i = 0; i < RUNS; i++) {
            test.play(i);
        }
        test.due.end("ModelTest");
    }

    private int pick(int below) {
        seed = seed * 6364136223846793005L + 1442695040888963407L;
        return (int) ((seed >>> 33) % below);
    }

    /** Mostly lo .. hi, now and then beside it. */
    private int near(int lo, int hi) {
        int odd = pick(40);
        if (odd == 0) return lo - 1;
        if (odd == 1) return hi + 1;
        if (odd == 2) return pick(2) == 0 ? Integer.MIN_VALUE : Integer.MAX_VALUE;
        return hi < lo ? lo : lo + pick(hi - lo + 1);
    }

    private void play(int number) {
        x = new PaidRests();
        y = new NaiveModel();
        run = "run " + number + ": ";
        tell(text(number % 3 == 0));
        for (int i = 0; i < CALLS; i++) {
            if (pick(130) == 0) tell(text(pick(3) == 0));
            else if (pick(3) == 0) act();
            else ask();
        }
        askAll();
    }

    private void tell(String text) {
        for (int i = 0; i < text.length(); i++) {
            due.is(run + "type", y.type(text.charAt(i)), x.type(text.charAt(i)));
        }
        due.is(run + "score of " + text, y.score(), x.score());
        due.is(run + "count(6)", y.count(6), x.count(6));
        if (pick(2) == 0) due.is(run + "clear()", y.clear(), x.clear());
    }

    private String text(boolean spoilt) {
        StringBuilder t = new StringBuilder();
        int bars = pick(4) == 0 ? 8 : 1 + pick(12);
        if (bars != 8 || pick(2) == 0) t.append("b").append(blank()).append(bars).append(blank()).append(";");
        int parts = pick(6), players = pick(6);
        boolean w = pick(3) > 0, f = pick(3) > 0;
        int density = 1 + pick(3);
        while (parts + players > 0 || w || f) {
            switch (pick(4)) {
                case 0: case 1:
                    if (pick(2) == 0 && parts > 0) { parts--; part(t, bars, density); }
                    else if (players > 0) { players--; player(t); }
                    break;
                case 2: if (w) { w = false; t.append("w").append(1 + pick(60)).append(";"); } break;
                default: if (f) { f = false; t.append("f").append(pick(31)).append(";"); } break;
            }
        }
        return spoilt ? spoil(t) : t.toString();
    }

    private void part(StringBuilder t, int bars, int density) {
        t.append(blank()).append("p").append(blank()).append(1 + pick(9));
        for (int b = 0; b < bars; b++) t.append(blank()).append(pick(4) < density ? "n" : "r");
        t.append(";");
    }

    private void player(StringBuilder t) {
        int needs = pick(3) == 0 ? pick(100) : pick(30);
        t.append("m").append(3 + pick(10)).append(" ").append(needs).append(blank()).append(";");
    }

    private String blank() {
        return pick(12) == 0 ? " " : "";
    }

    private String spoil(StringBuilder t) {
        String bits = "bpmwfnr;0123456789 x";
        int times = 1 + pick(2);
        for (int i = 0; i < times && t.length() > 0; i++) {
            int at = pick(t.length());
            char c = pick(20) == 0 ? (char) pick(256) : bits.charAt(pick(bits.length()));
            switch (pick(4)) {
                case 0: t.setCharAt(at, c); break;
                case 1: t.insert(at, c); break;
                case 2: t.deleteCharAt(at); break;
                default: if (pick(3) == 0) t.setLength(at); break;
            }
        }
        return t.toString();
    }

    private void act() {
        int p = near(0, y.parts.size() - 1), m = near(-1, y.players.size() - 1);
        int n = near(0, y.players.size() - 1), b = near(0, y.bars - 1), is = near(0, 1);
        switch (pick(12)) {
            case 0: case 1: case 2: case 3:
                due.is(run + "gives(" + p + ", " + m + ")", y.gives(p, m), x.gives(p, m)); break;
            case 4: case 5: case 6:
                due.is(run + "sleeps(" + n + ", " + b + ", " + is + ")", y.sleeps(n, b, is), x.sleeps(n, b, is)); break;
            case 7: due.is(run + "evening()", y.evening(), x.evening()); break;
            case 8: due.is(run + "undo()", y.undo(), x.undo()); break;
            case 9: noted(b); break;
            case 10: due.is(run + "keep(" + is + ")", y.keep(is), x.keep(is)); break;
            default: due.is(run + "back(" + is + ")", y.back(is), x.back(is)); break;
        }
    }

    private void noted(int b) {
        int v = pick(2) == 0 && y.heard(b) >= 0 ? y.heard(b) : near(0, 45);
        due.is(run + "noted(" + b + ", " + v + ")", y.noted(b, v), x.noted(b, v));
        if (pick(4) == 0) due.is(run + "forget()", y.forget(), x.forget());
    }

    private void ask() {
        int p = near(0, y.parts.size() - 1), m = near(0, y.players.size() - 1), b = near(0, y.bars - 1), what = near(0, 6);
        int two = near(0, 1), three = near(0, 2), n = near(1, pick(2) == 0 ? 999 : 60), q = near(0, 10), v = near(0, 46);
        v = pick(2) == 0 ? pick(15) : v;
        switch (pick(18)) {
            case 0: due.is(run + "part(" + p + ", " + three + ")", y.part(p, three), x.part(p, three)); break;
            case 1: due.is(run + "player(" + m + ", " + what + ")", y.player(m, what), x.player(m, what)); break;
            case 2: due.is(run + "coins(" + m + ", " + two + ")", y.coins(m, two), x.coins(m, two)); break;
            case 3: due.is(run + "now(" + what + ")", y.now(what), x.now(what)); break;
            case 4: if (pick(10) == 0) shareAll(); break;
            case 5: due.is(run + "costs(" + p + ")", y.costs(p), x.costs(p)); break;
            case 6: due.is(run + "exchange()", y.exchange(), x.exchange()); break;
            case 7: if (pick(5) == 0) leftOutAll(); break;
            case 8: due.is(run + "bars(" + three + ")", y.bars(three), x.bars(three)); break;
            case 9: due.is(run + "heard(" + b + ")", y.heard(b), x.heard(b)); break;
            case 10: due.is(run + "rests(" + b + ")", y.rests(b), x.rests(b)); break;
            case 11: due.is(run + "first()", y.first(), x.first()); break;
            case 12: due.is(run + "who()", y.who(), x.who()); break;
            case 13: due.is(run + "broke()", y.broke(), x.broke()); break;
            case 14: due.is(run + "rich(" + n + ")", y.rich(n), x.rich(n)); break;
            case 15:
                due.is(run + "odds(" + b + ", " + q + ", " + v + ", " + two + ")", y.odds(b, q, v, two), x.odds(b, q, v, two));
                break;
            case 16: due.is(run + "rate(" + what + ", " + p + ")", y.rate(what, p), x.rate(what, p)); break;
            default: due.is(run + "count(" + what + ")", y.count(what), x.count(what)); break;
        }
        due.is(run + "trace()", y.trace(), x.trace());
    }

    private void shareAll() {
        for (int p = -2; p <= y.parts.size(); p++) due.is(run + "share(" + p + ")", y.share(p), x.share(p));
    }

    private void leftOutAll() {
        for (int m = -1; m <= y.players.size(); m++) {
            for (int w = -1; w <= 2; w++) due.is(run + "leftOut(" + m + ", " + w + ")", y.leftOut(m, w), x.leftOut(m, w));
        }
    }

    private void askAll() {
        shareAll();
        leftOutAll();
        for (int m = 0; m < y.players.size(); m++) {
            for (int w = 0; w < 7; w++) due.is(run + "player(" + m + ", " + w + ")", y.player(m, w), x.player(m, w));
            for (int w = 0; w < 2; w++) due.is(run + "coins(" + m + ", " + w + ")", y.coins(m, w), x.coins(m, w));
        }
        for (int w = 0; w < 7; w++) due.is(run + "count(" + w + ")", y.count(w), x.count(w));
    }
}
