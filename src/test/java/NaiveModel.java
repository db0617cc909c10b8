import java.util.ArrayList;
import java.util.List;

/**
 * The document once more, in the longest and plainest way: every bar is asked of every player, every set is
 * tried. It shares no method with PaidRests, so that a slip of one shows against the other.
 */
final class NaiveModel {
    static final int BAD = -1, STATE = -2, FULL = -3, NONE = -9, NO = -1000000;

    static final class Part { int loud; boolean[] note; int owner = -1; }

    static final class Player { int lung; int needs; int saved; boolean[] asleep = new boolean[12]; }

    static final class Token { int place; String what; }

    StringBuilder text = new StringBuilder();
    int bars = 8, purse = 12, fine = 5, evenings = 0;
    List<Part> parts = new ArrayList<>();
    List<Player> players = new ArrayList<>();
    List<int[]> noted = new ArrayList<>();
    List<int[]> past = new ArrayList<>();
    int[][] images = new int[2][];
    long trace = 0;

    // ---- the text

    int type(int letter) {
        if (letter < 0 || letter > 255) return BAD;
        if (text.length() == 200) return FULL;
        text.append((char) letter);
        return text.length();
    }

    int clear() {
        int had = text.length();
        text.setLength(0);
        return had;
    }

    List<Token> tokens() {
        List<Token> all = new ArrayList<>();
        String t = text.toString();
        int i = 0;
        while (i < t.length()) {
            if (t.charAt(i) == ' ') { i++; continue; }
            Token k = new Token();
            k.place = i;
            int j = i + 1;
            if (t.substring(i, i + 1).matches("[0-9]")) {
                while (j < t.length() && t.substring(j, j + 1).matches("[0-9]")) j++;
            }
            k.what = t.substring(i, j);
            all.add(k);
            i = j;
        }
        Token end = new Token();
        end.place = t.length();
        end.what = "end";
        all.add(end);
        return all;
    }

    static boolean number(String s, int lo, int hi) {
        if (!s.matches("0|[1-9][0-9]?")) return false;
        int n = Integer.parseInt(s);
        return n >= lo && n <= hi;
    }

    int score() {
        List<Token> ts = tokens();
        int nb = 8, nw = 12, nf = 5, items = 0, i = 0;
        boolean w = false, f = false;
        List<Part> np = new ArrayList<>();
        List<Player> nm = new ArrayList<>();
        while (!ts.get(i).what.equals("end")) {
            String head = ts.get(i).what;
            boolean may = head.equals("b") && items == 0 || head.equals("p") && np.size() < 5
                || head.equals("m") && nm.size() < 5 || head.equals("w") && !w || head.equals("f") && !f;
            if (!may) return -10 - ts.get(i).place;
            i++;
            int[][] ranges;
            switch (head) {
                case "b": ranges = new int[][] {{1, 12}}; break;
                case "p": ranges = new int[][] {{1, 9}}; break;
                case "m": ranges = new int[][] {{1, 12}, {0, 99}}; break;
                case "w": ranges = new int[][] {{1, 60}}; break;
                default: ranges = new int[][] {{0, 30}}; break;
            }
            int[] got = new int[ranges.length];
            for (int r = 0; r < ranges.length; r++, i++) {
                if (!number(ts.get(i).what, ranges[r][0], ranges[r][1])) return -10 - ts.get(i).place;
                got[r] = Integer.parseInt(ts.get(i).what);
            }
            if (head.equals("p")) {
                Part p = new Part();
                p.loud = got[0];
                p.note = new boolean[12];
                for (int b = 0; b < nb; b++, i++) {
                    String x = ts.get(i).what;
                    if (!x.equals("n") && !x.equals("r")) return -10 - ts.get(i).place;
                    p.note[b] = x.equals("n");
                }
                np.add(p);
            }
            if (!ts.get(i).what.equals(";")) return -10 - ts.get(i).place;
            i++;
            if (head.equals("b")) nb = got[0];
            if (head.equals("w")) { nw = got[0]; w = true; }
            if (head.equals("f")) { nf = got[0]; f = true; }
            if (head.equals("m")) {
                Player m = new Player();
                m.lung = got[0];
                m.needs = got[1];
                nm.add(m);
            }
            items++;
        }
        bars = nb; purse = nw; fine = nf; parts = np; players = nm;
        evenings = 0;
        noted.clear(); past.clear(); text.setLength(0);
        images = new int[2][];
        return items;
    }

    // ---- terms

    boolean should(int m, int bar) {
        for (Part p : parts) if (p.owner == m && p.note[bar]) return true;
        return false;
    }

    boolean plays(int m, int bar) { return should(m, bar) && !players.get(m).asleep[bar]; }

    int resters(int bar) {
        int n = 0;
        for (int m = 0; m < players.size(); m++) if (!plays(m, bar)) n++;
        return n;
    }

    int pay(int m) {
        int pay = 0;
        for (int bar = 0; bar < bars; bar++) {
            if (!plays(m, bar)) pay += purse / resters(bar);
            if (should(m, bar) && players.get(m).asleep[bar]) pay -= fine;
        }
        return pay;
    }

    int payOfAll() {
        int sum = 0;
        for (int m = 0; m < players.size(); m++) sum += pay(m);
        return sum;
    }

    boolean lives(int m) { return pay(m) >= players.get(m).needs; }

    boolean breathless(int m) {
        int run = 0;
        for (int bar = 0; bar < bars; bar++) {
            run = should(m, bar) ? run + 1 : 0;
            if (run > players.get(m).lung) return true;
        }
        return false;
    }

    int[] image() {
        int[] row = new int[5 + 60 + 5 + 1];
        for (int p = 0; p < parts.size(); p++) row[p] = parts.get(p).owner;
        for (int m = 0; m < players.size(); m++) {
            for (int b = 0; b < 12; b++) row[5 + 12 * m + b] = players.get(m).asleep[b] ? 1 : 0;
            row[65 + m] = players.get(m).saved;
        }
        row[70] = evenings;
        return row;
    }

    void restore(int[] row) {
        for (int p = 0; p < parts.size(); p++) parts.get(p).owner = row[p];
        for (int m = 0; m < players.size(); m++) {
            for (int b = 0; b < 12; b++) players.get(m).asleep[b] = row[5 + 12 * m + b] == 1;
            players.get(m).saved = row[65 + m];
        }
        evenings = row[70];
    }

    void remember() {
        past.add(image());
        if (past.size() > 10) past.remove(0);
    }

    boolean noPart(int p) { return p < 0 || p >= parts.size(); }

    boolean noPlayer(int m) { return m < 0 || m >= players.size(); }

    boolean noBar(int b) { return b < 0 || b >= bars; }

    // ---- the calls

    int part(int p, int what) {
        if (noPart(p) || what < 0 || what > 2) return BAD;
        Part x = parts.get(p);
        if (what == 0) return x.loud;
        if (what == 2) return x.owner < 0 ? NONE : x.owner;
        int bits = 0;
        for (int b = 0; b < bars; b++) if (x.note[b]) bits += 1 << b;
        return bits;
    }

    int player(int m, int what) {
        if (noPlayer(m) || what < 0 || what > 6) return BAD;
        Player x = players.get(m);
        int bits = 0;
        switch (what) {
            case 0: return x.lung;
            case 1: return x.needs;
            case 2: for (int b = 0; b < bars; b++) if (should(m, b)) bits += 1 << b; return bits;
            case 3: for (int b = 0; b < bars; b++) if (x.asleep[b]) bits += 1 << b; return bits;
            case 4: return lives(m) ? 1 : 0;
            case 5: return breathless(m) ? 1 : 0;
            default: for (int p = 0; p < parts.size(); p++) if (parts.get(p).owner == m) bits += 1 << p; return bits;
        }
    }

    int coins(int m, int what) {
        if (noPlayer(m) || what < 0 || what > 1) return NO;
        return what == 0 ? pay(m) : players.get(m).saved;
    }

    int now(int what) {
        int n = 0;
        switch (what) {
            case 0: return evenings;
            case 1: for (int p = 0; p < parts.size(); p++) if (parts.get(p).owner < 0) n += 1 << p; return n;
            case 2: for (int b = 0; b < bars; b++) n += resters(b); return n;
            case 3: return past.size();
            default: return BAD;
        }
    }

    int gives(int p, int m) {
        if (noPart(p) || m != -1 && noPlayer(m)) return BAD;
        remember();
        int was = parts.get(p).owner;
        parts.get(p).owner = m;
        return was < 0 ? NONE : was;
    }

    int sleeps(int m, int bar, int is) {
        if (noPlayer(m) || noBar(bar) || is != 0 && is != 1) return BAD;
        remember();
        boolean did = players.get(m).asleep[bar];
        players.get(m).asleep[bar] = is == 1;
        return did ? 1 : 0;
    }

    int evening() {
        if (evenings == 999) return STATE;
        remember();
        return play();
    }

    private int play() {
        int lived = 0;
        int[] gains = new int[players.size()];
        for (int m = 0; m < players.size(); m++) {
            if (lives(m)) lived++;
            gains[m] = pay(m) - players.get(m).needs;
        }
        for (int m = 0; m < players.size(); m++) {
            Player x = players.get(m);
            x.saved += gains[m];
            if (x.saved > 9999) x.saved = 9999;
            if (x.saved < -9999) x.saved = -9999;
            x.asleep = new boolean[12];
        }
        evenings++;
        return lived;
    }

    int undo() {
        if (past.isEmpty()) return STATE;
        restore(past.remove(past.size() - 1));
        return past.size();
    }

    int share(int p) {
        if (p != -1 && noPart(p)) return NO;
        if (players.isEmpty()) return NONE;
        int[] stands = image();
        for (Player m : players) m.asleep = new boolean[12];
        int[] best = new int[] {NONE};
        int[] chosen = new int[5];
        tryWays(0, best, chosen);
        restore(stands);
        return p == -1 || best[0] == NONE ? best[0] : chosen[p];
    }

    private void tryWays(int p, int[] best, int[] chosen) {
        if (p < parts.size()) {
            for (int m = 0; m < players.size(); m++) {
                parts.get(p).owner = m;
                tryWays(p + 1, best, chosen);
            }
            return;
        }
        int least = Integer.MAX_VALUE;
        for (int m = 0; m < players.size(); m++) {
            if (!lives(m) || breathless(m)) return;
            least = Math.min(least, pay(m));
        }
        if (least > best[0]) {
            best[0] = least;
            for (int i = 0; i < parts.size(); i++) chosen[i] = parts.get(i).owner;
        }
    }

    int costs(int p) {
        if (noPart(p)) return NO;
        int m = parts.get(p).owner;
        if (m < 0) return 0;
        int has = pay(m);
        parts.get(p).owner = -1;
        int would = pay(m);
        parts.get(p).owner = m;
        return would - has;
    }

    int exchange() {
        int most = payOfAll();
        int pair = NONE;
        for (int i = 0; i < parts.size(); i++) {
            for (int j = i + 1; j < parts.size(); j++) {
                int a = parts.get(i).owner, b = parts.get(j).owner;
                if (a == b) continue;
                parts.get(i).owner = b;
                parts.get(j).owner = a;
                int sum = payOfAll();
                parts.get(i).owner = a;
                parts.get(j).owner = b;
                if (sum > most) { most = sum; pair = 10 * i + j; }
            }
        }
        return pair;
    }

    int leftOut(int m, int what) {
        if (noPlayer(m) || what != 0 && what != 1) return BAD;
        int best = -1;
        for (int set = 0; set < 1 << bars; set++) {
            if (best >= 0 && Integer.bitCount(set) >= Integer.bitCount(best)) continue;
            if (livesWithout(m, set)) best = set;
        }
        if (best < 0) return NONE;
        return what == 0 ? Integer.bitCount(best) : best;
    }

    private boolean livesWithout(int m, int set) {
        int pay = 0;
        for (int b = 0; b < bars; b++) {
            boolean out = (set & 1 << b) != 0;
            if (out && !plays(m, b)) return false;
            if (out) pay += purse / (resters(b) + 1);
            else if (!plays(m, b)) pay += purse / resters(b);
            if (should(m, b) && players.get(m).asleep[b]) pay -= fine;
        }
        return pay >= players.get(m).needs;
    }

    int bars(int what) {
        int nobody = 0, tutti = 0, run = 0, longest = 0;
        for (int b = 0; b < bars; b++) {
            int playing = players.size() - resters(b);
            if (playing == 0) nobody += 1 << b;
            if (playing == players.size() && playing > 0) tutti += 1 << b;
            run = playing == 0 ? run + 1 : 0;
            longest = Math.max(longest, run);
        }
        return what == 0 ? nobody : what == 1 ? tutti : what == 2 ? longest : BAD;
    }

    int heard(int bar) {
        if (noBar(bar)) return BAD;
        int sum = 0;
        for (Part p : parts) if (p.owner >= 0 && p.note[bar] && !players.get(p.owner).asleep[bar]) sum += p.loud;
        return sum;
    }

    int rests(int bar) { return noBar(bar) ? BAD : resters(bar); }

    int first() {
        int best = NONE, most = -1;
        for (int m = 0; m < players.size(); m++) {
            int n = 0;
            for (int b = 0; b < bars; b++) if (plays(m, b)) n++;
            if (n > most) { most = n; best = m; }
        }
        return best;
    }

    int noted(int bar, int v) {
        if (noBar(bar) || v < 0 || v > 45) return BAD;
        if (noted.size() == 6) return FULL;
        noted.add(new int[] {bar, v});
        return noted.size();
    }

    int forget() {
        int n = noted.size();
        noted.clear();
        return n;
    }

    int who() {
        int[] stands = image();
        int found = 0;
        for (int s = 0; s <= players.size(); s++) {
            for (int m = 0; m < players.size(); m++) java.util.Arrays.fill(players.get(m).asleep, m == s);
            boolean all = true;
            for (int[] n : noted) all &= heard(n[0]) == n[1];
            if (all) found += s == players.size() ? 32 : 1 << s;
        }
        restore(stands);
        return found;
    }

    int broke() { return evenings(-1); }

    int rich(int n) { return n < 1 || n > 999 ? BAD : evenings(n); }

    private int evenings(int n) {
        int[] stands = image();
        int answer = NONE;
        for (int k = 0; k <= 300 && answer == NONE; k++) {
            boolean so = n > 0;
            for (Player m : players) {
                if (n > 0) so &= m.saved >= n;
                else so |= m.saved < 0;
            }
            if (so) answer = k;
            else play();
        }
        restore(stands);
        return answer;
    }

    int odds(int bar, int p, int v, int what) {
        if (noBar(bar) || p < 0 || p > 10 || v < 0 || v > 46 || what < 0 || what > 1) return BAD;
        int[] stands = image();
        List<Integer> who = new ArrayList<>();
        for (int m = 0; m < players.size(); m++) {
            players.get(m).asleep = new boolean[12];
            if (should(m, bar)) who.add(m);
        }
        long[] f = new long[] {0, 1};
        for (int i = 0; i < who.size(); i++) f[1] *= 10;
        for (int set = 0; set < 1 << who.size(); set++) {
            long weight = 1;
            for (int i = 0; i < who.size(); i++) {
                boolean sleeps = (set & 1 << i) != 0;
                players.get(who.get(i)).asleep[bar] = sleeps;
                weight *= sleeps ? p : 10 - p;
            }
            if (heard(bar) >= v) f[0] += weight;
        }
        restore(stands);
        for (int d = 2; d <= 5; d += 3) while (f[0] % d == 0 && f[1] % d == 0) { f[0] /= d; f[1] /= d; }
        return (int) f[what];
    }

    int rate(int kind, int p) {
        if (kind < 0 || kind > 5 || noPart(p)) return NO;
        switch (kind) {
            case 1: trace += 10; return rate(0, p) + parts.get(p).loud;
            case 2: trace += 100; return rate(0, p) - costs(p);
            case 3: trace += 1000; return 2 * rate(1, p);
            case 4: trace += 10000; return rate(2, p) + p;
            case 5: trace += 100000; return rate(0, p) + evenings;
            default: trace += 1; return Integer.bitCount(part(p, 1));
        }
    }

    int keep(int image) {
        if (image < 0 || image > 1) return BAD;
        images[image] = image();
        return evenings;
    }

    int back(int image) {
        if (image < 0 || image > 1) return BAD;
        if (images[image] == null) return STATE;
        restore(images[image]);
        past.clear();
        return evenings;
    }

    int count(int what) {
        int[] all = {parts.size(), players.size(), bars, purse, fine, noted.size(), text.length()};
        return what < 0 || what > 6 ? BAD : all[what];
    }

    long trace() { return trace; }
}
