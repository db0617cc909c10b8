import java.util.Arrays;

/**
 * Players of an orchestra who are paid by the bar for not playing.
 * The words in capital letters are those of the document, DOC.md.
 */
public final class PaidRests {
    public static final int BAD = -1, STATE = -2, FULL = -3, NONE = -9;
    public static final int NO = -1000000;

    private static final int MOST_LETTERS = 200, MOST_BARS = 12, MOST_PARTS = 5, MOST_PLAYERS = 5;
    private static final int MOST_UNDONE = 10, MOST_NOTED = 6, MOST_IMAGES = 2;
    private static final int MOST_EVENINGS = 999, MOST_SAVED = 9999, FAR_EVENINGS = 300;
    private static final int MOST_PAY = 60 * MOST_BARS, LOUDEST = 45, MOST_RICH = 999, NOBODY = -1, NOBODY_SLEPT = 32;
    private static final int[] AWAKE = {0, 0, 0, 0, 0};

    private final Reader reader = new Reader();
    private final Told told = new Told();
    private final Told draft = new Told();
    private final Standing standing = new Standing();
    private final Past past = new Past();
    private final Standing[] images = new Standing[MOST_IMAGES];
    private int imagesKept = 0;
    private final Stage stage = new Stage(told);
    private final Sharing sharing = new Sharing(told, stage);
    private final Omission omission = new Omission(told, stage);
    private final Outlook outlook = new Outlook(told, stage);
    private final int[] trial = new int[MOST_PARTS];
    private final int[] notedBars = new int[MOST_NOTED];
    private final int[] notedLoud = new int[MOST_NOTED];
    private int notedCount = 0;
    private long traced = 0;

    public PaidRests() {
        for (int image = 0; image < MOST_IMAGES; image++) {
            images[image] = new Standing();
        }
    }

    // ---- the score

    public int type(int letter) {
        if (letter < 0 || letter > 255) {
            return BAD;
        }
        return reader.hasRoom() ? reader.append((char) letter) : FULL;
    }

    public int clear() {
        return reader.empty();
    }

    public int score() {
        int items = reader.readInto(draft);
        if (items < 0) {
            return items;
        }
        reader.empty();
        told.become(draft);
        standing.begin();
        past.lose();
        sharing.lose();
        imagesKept = 0;
        notedCount = 0;
        return items;
    }

    public int part(int p, int what) {
        if (!told.hasPart(p)) {
            return BAD;
        }
        switch (what) {
            case 0: return told.loud[p];
            case 1: return told.notes[p];
            case 2: return ownerOrNone(p);
            default: return BAD;
        }
    }

    public int player(int m, int what) {
        if (!told.hasPlayer(m)) {
            return BAD;
        }
        seatAll();
        switch (what) {
            case 0: return told.lung[m];
            case 1: return told.needs[m];
            case 2: return stage.duty[m];
            case 3: return standing.asleep[m];
            case 4: return stage.lives(m) ? 1 : 0;
            case 5: return stage.outOfBreath(m) ? 1 : 0;
            case 6: return partsOf(m);
            default: return BAD;
        }
    }

    public int coins(int m, int what) {
        if (!told.hasPlayer(m)) {
            return NO;
        }
        switch (what) {
            case 0: return payNow(m);
            case 1: return standing.saved[m];
            default: return NO;
        }
    }

    public int now(int what) {
        switch (what) {
            case 0: return standing.evenings;
            case 1: return partsOf(NOBODY);
            case 2: return restsOfAllBars();
            case 3: return past.known;
            default: return BAD;
        }
    }

    // ---- what is done

    public int gives(int p, int m) {
        if (!told.hasPart(p) || (m != NOBODY && !told.hasPlayer(m))) {
            return BAD;
        }
        int whose = ownerOrNone(p);
        past.remember(standing);
        standing.owner[p] = m;
        return whose;
    }

    public int sleeps(int m, int bar, int is) {
        if (!told.hasPlayer(m) || !told.hasBar(bar) || is < 0 || is > 1) {
            return BAD;
        }
        int did = standing.asleep[m] >> bar & 1;
        past.remember(standing);
        standing.asleep[m] = standing.asleep[m] & ~(1 << bar) | is << bar;
        return did;
    }

    public int evening() {
        if (standing.evenings >= MOST_EVENINGS) {
            return STATE;
        }
        past.remember(standing);
        seatAll();
        int lived = 0;
        for (int m = 0; m < told.players; m++) {
            lived += stage.lives(m) ? 1 : 0;
            standing.saved[m] = savedAfter(standing.saved[m], stage.gain(m));
        }
        Arrays.fill(standing.asleep, 0);
        standing.evenings++;
        return lived;
    }

    public int undo() {
        if (past.known == 0) {
            return STATE;
        }
        past.takeBack(standing);
        return past.known;
    }

    // ---- how it should be

    public int share(int p) {
        if (p != -1 && !told.hasPart(p)) {
            return NO;
        }
        sharing.search();
        if (p == -1 || sharing.least == NONE) {
            return sharing.least;
        }
        return sharing.best[p];
    }

    public int costs(int p) {
        return told.hasPart(p) ? costOf(p) : NO;
    }

    public int exchange() {
        seatAll();
        int most = stage.payOfAll();
        int pair = NONE;
        for (int p = 0; p < told.parts; p++) {
            for (int other = p + 1; other < told.parts; other++) {
                int pay = payIfExchanged(p, other);
                if (pay > most) {
                    most = pay;
                    pair = 10 * p + other;
                }
            }
        }
        return pair;
    }

    public int leftOut(int m, int what) {
        if (!told.hasPlayer(m) || what < 0 || what > 1) {
            return BAD;
        }
        seatAll();
        omission.weigh(m);
        int fewest = omission.fewest();
        return what == 0 || fewest == NONE ? fewest : omission.leastOf(fewest);
    }

    // ---- bars

    public int bars(int what) {
        seatAll();
        switch (what) {
            case 0: return stage.nobodys();
            case 1: return stage.tutti();
            case 2: return longestRun(stage.nobodys());
            default: return BAD;
        }
    }

    public int heard(int bar) {
        return told.hasBar(bar) ? loudness(bar, sleepersIn(bar)) : BAD;
    }

    public int rests(int bar) {
        if (!told.hasBar(bar)) {
            return BAD;
        }
        seatAll();
        return stage.restersIn(bar);
    }

    public int first() {
        seatAll();
        int best = NONE;
        int most = -1;
        for (int m = 0; m < told.players; m++) {
            int played = Integer.bitCount(stage.plays[m]);
            if (played > most) {
                most = played;
                best = m;
            }
        }
        return best;
    }

    // ---- who slept

    public int noted(int bar, int v) {
        if (!told.hasBar(bar) || v < 0 || v > LOUDEST) {
            return BAD;
        }
        if (notedCount >= MOST_NOTED) {
            return FULL;
        }
        notedBars[notedCount] = bar;
        notedLoud[notedCount] = v;
        notedCount++;
        return notedCount;
    }

    public int forget() {
        int were = notedCount;
        notedCount = 0;
        return were;
    }

    public int who() {
        int found = agreesWithNoted(0) ? NOBODY_SLEPT : 0;
        for (int m = 0; m < told.players; m++) {
            found |= agreesWithNoted(1 << m) ? 1 << m : 0;
        }
        return found;
    }

    // ---- what comes

    public int broke() {
        outlook.begin(standing);
        for (int passed = 0; passed <= FAR_EVENINGS; passed++) {
            if (outlook.somebodyOwes()) {
                return passed;
            }
            outlook.pass(passed == 0);
        }
        return NONE;
    }

    public int rich(int n) {
        if (n < 1 || n > MOST_RICH) {
            return BAD;
        }
        outlook.begin(standing);
        for (int passed = 0; passed <= FAR_EVENINGS; passed++) {
            if (outlook.allHave(n)) {
                return passed;
            }
            outlook.pass(passed == 0);
        }
        return NONE;
    }

    public int odds(int bar, int p, int v, int what) {
        if (!told.hasBar(bar) || p < 0 || p > 10 || v < 0 || v > LOUDEST + 1 || what < 0 || what > 1) {
            return BAD;
        }
        int upper = 0;
        int lower = 0;
        for (int sleepers = 0; sleepers < 1 << told.players; sleepers++) {
            int weight = weightOf(sleepers, p);
            lower += weight;
            upper += loudness(bar, sleepers) >= v ? weight : 0;
        }
        int common = greatestDivisor(upper, lower);
        if (common == 0) {
            return BAD;
        }
        return (what == 0 ? upper : lower) / common;
    }

    // ---- kinds, images

    public int rate(int kind, int p) {
        if (!told.hasPart(p)) {
            return NO;
        }
        switch (kind) {
            case 0: return asPart(p);
            case 1: return asOboe(p);
            case 2: return asHorn(p);
            case 3: return asSolo(p);
            case 4: return asDrum(p);
            case 5: return asFugue(p);
            default: return NO;
        }
    }

    public int keep(int image) {
        if (image < 0 || image >= MOST_IMAGES) {
            return BAD;
        }
        images[image].become(standing);
        imagesKept |= 1 << image;
        return standing.evenings;
    }

    public int back(int image) {
        if (image < 0 || image >= MOST_IMAGES) {
            return BAD;
        }
        if ((imagesKept >> image & 1) == 0) {
            return STATE;
        }
        standing.become(images[image]);
        past.lose();
        return standing.evenings;
    }

    public int count(int what) {
        switch (what) {
            case 0: return told.parts;
            case 1: return told.players;
            case 2: return told.bars;
            case 3: return told.purse;
            case 4: return told.fine;
            case 5: return notedCount;
            case 6: return reader.length;
            default: return BAD;
        }
    }

    public long trace() {
        return traced;
    }

    // ---- helpers of the calls

    private void seatAll() {
        stage.seat(standing.owner, standing.asleep);
    }

    private int payNow(int m) {
        seatAll();
        return stage.pay(m);
    }

    private int ownerOrNone(int p) {
        return standing.owner[p] == NOBODY ? NONE : standing.owner[p];
    }

    private int partsOf(int m) {
        int found = 0;
        for (int p = 0; p < told.parts; p++) {
            found |= standing.owner[p] == m ? 1 << p : 0;
        }
        return found;
    }

    private int restsOfAllBars() {
        seatAll();
        int all = 0;
        for (int bar = 0; bar < told.bars; bar++) {
            all += stage.restersIn(bar);
        }
        return all;
    }

    private int costOf(int p) {
        int m = standing.owner[p];
        if (!told.hasPlayer(m)) {
            return 0;
        }
        stage.seat(standing.owner, standing.asleep);
        int pay = stage.pay(m);
        System.arraycopy(standing.owner, 0, trial, 0, MOST_PARTS);
        trial[p] = NOBODY;
        stage.seat(trial, standing.asleep);
        return stage.pay(m) - pay;
    }

    // PARTS of one PLAYER stay as they are: their pay is never more than it is, so they are never chosen.
    private int payIfExchanged(int p, int other) {
        System.arraycopy(standing.owner, 0, trial, 0, MOST_PARTS);
        trial[p] = standing.owner[other];
        trial[other] = standing.owner[p];
        stage.seat(trial, standing.asleep);
        return stage.payOfAll();
    }

    private int sleepersIn(int bar) {
        int sleepers = 0;
        for (int m = 0; m < told.players; m++) {
            sleepers |= (standing.asleep[m] >> bar & 1) << m;
        }
        return sleepers;
    }

    private int loudness(int bar, int sleepers) {
        int loud = 0;
        for (int p = 0; p < told.parts; p++) {
            int m = standing.owner[p];
            boolean played = told.hasPlayer(m) && (sleepers >> m & 1) == 0;
            loud += played && (told.notes[p] >> bar & 1) == 1 ? told.loud[p] : 0;
        }
        return loud;
    }

    private boolean agreesWithNoted(int sleepers) {
        for (int i = 0; i < notedCount; i++) {
            if (loudness(notedBars[i], sleepers) != notedLoud[i]) {
                return false;
            }
        }
        return true;
    }

    // All PLAYERS are counted, not just those who should play: the others change nothing that is HEARD,
    // and their weights together are 10 of 10.
    private int weightOf(int sleepers, int p) {
        int weight = 1;
        for (int m = 0; m < told.players; m++) {
            weight *= (sleepers >> m & 1) == 1 ? p : 10 - p;
        }
        return weight;
    }

    // Euclid's steps on numbers of at most 100000 are far fewer than 64.
    private static int greatestDivisor(int one, int other) {
        int a = one;
        int b = other;
        for (int step = 0; step < 64 && b != 0; step++) {
            int rest = a % b;
            a = b;
            b = rest;
        }
        return a;
    }

    private static int longestRun(int bars) {
        int run = 0;
        for (int ends = bars; ends != 0 && run < MOST_BARS; ends &= ends >> 1) {
            run++;
        }
        return run;
    }

    private static int savedAfter(int saved, int gain) {
        return Math.max(-MOST_SAVED, Math.min(MOST_SAVED, saved + gain));
    }

    private int asPart(int p) {
        traced += 1;
        return Integer.bitCount(told.notes[p]);
    }

    private int asOboe(int p) {
        traced += 10;
        return asPart(p) + told.loud[p];
    }

    private int asHorn(int p) {
        traced += 100;
        return asPart(p) - costOf(p);
    }

    private int asSolo(int p) {
        traced += 1000;
        return 2 * asOboe(p);
    }

    private int asDrum(int p) {
        traced += 10000;
        return asHorn(p) + p;
    }

    private int asFugue(int p) {
        traced += 100000;
        return asPart(p) + standing.evenings;
    }

    /** What the text told: it changes by score() alone. */
    private static final class Told {
        int bars = 8;
        int purse = 12;
        int fine = 5;
        int parts = 0;
        int players = 0;
        final int[] loud = new int[MOST_PARTS];
        final int[] notes = new int[MOST_PARTS];
        final int[] lung = new int[MOST_PLAYERS];
        final int[] needs = new int[MOST_PLAYERS];

        void begin() {
            bars = 8;
            purse = 12;
            fine = 5;
            parts = 0;
            players = 0;
        }

        void become(Told other) {
            bars = other.bars;
            purse = other.purse;
            fine = other.fine;
            parts = other.parts;
            players = other.players;
            System.arraycopy(other.loud, 0, loud, 0, MOST_PARTS);
            System.arraycopy(other.notes, 0, notes, 0, MOST_PARTS);
            System.arraycopy(other.lung, 0, lung, 0, MOST_PLAYERS);
            System.arraycopy(other.needs, 0, needs, 0, MOST_PLAYERS);
        }

        boolean hasPart(int p) {
            return p >= 0 && p < parts;
        }

        boolean hasPlayer(int m) {
            return m >= 0 && m < players;
        }

        boolean hasBar(int bar) {
            return bar >= 0 && bar < bars;
        }

        int allBars() {
            return (1 << bars) - 1;
        }
    }

    /** The text, and how it is read, TOKEN by TOKEN; where it stops, start is the FAULT. */
    private static final class Reader {
        private static final int NUMBER = 256, END = 257, WRONG = 258;

        final char[] letters = new char[MOST_LETTERS];
        int length = 0;
        private int place = 0;
        private int start = 0;
        private int token = END;
        private int number = 0;
        private boolean purseTold = false;
        private boolean fineTold = false;

        boolean hasRoom() {
            return length < MOST_LETTERS;
        }

        int append(char letter) {
            if (hasRoom()) {
                letters[length] = letter;
                length++;
            }
            return length;
        }

        int empty() {
            int had = length;
            length = 0;
            return had;
        }

        // Each ITEM takes a letter at least, so that there are never more of them than letters.
        int readInto(Told draft) {
            draft.begin();
            place = 0;
            purseTold = false;
            fineTold = false;
            for (int items = 0; items <= length; items++) {
                next();
                if (token == END) {
                    return items;
                }
                if (!takesItem(draft, items)) {
                    break;
                }
            }
            return -10 - start;
        }

        private boolean takesItem(Told draft, int itemsAhead) {
            switch (token) {
                case 'b': return itemsAhead == 0 && takesBars(draft) && takesEnd();
                case 'p': return draft.parts < MOST_PARTS && takesPart(draft) && takesEnd();
                case 'm': return draft.players < MOST_PLAYERS && takesPlayer(draft) && takesEnd();
                case 'w': return !purseTold && takesPurse(draft) && takesEnd();
                case 'f': return !fineTold && takesFine(draft) && takesEnd();
                default: return false;
            }
        }

        private boolean takesBars(Told draft) {
            if (!takesNumber(1, MOST_BARS)) {
                return false;
            }
            draft.bars = number;
            return true;
        }

        private boolean takesPart(Told draft) {
            if (!takesNumber(1, 9)) {
                return false;
            }
            int loud = number;
            int notes = 0;
            for (int bar = 0; bar < draft.bars; bar++) {
                next();
                if (token != 'n' && token != 'r') {
                    return false;
                }
                notes |= token == 'n' ? 1 << bar : 0;
            }
            draft.loud[draft.parts] = loud;
            draft.notes[draft.parts] = notes;
            draft.parts++;
            return true;
        }

        private boolean takesPlayer(Told draft) {
            if (!takesNumber(1, 12)) {
                return false;
            }
            int lung = number;
            if (!takesNumber(0, 99)) {
                return false;
            }
            draft.lung[draft.players] = lung;
            draft.needs[draft.players] = number;
            draft.players++;
            return true;
        }

        private boolean takesPurse(Told draft) {
            if (!takesNumber(1, 60)) {
                return false;
            }
            draft.purse = number;
            purseTold = true;
            return true;
        }

        private boolean takesFine(Told draft) {
            if (!takesNumber(0, 30)) {
                return false;
            }
            draft.fine = number;
            fineTold = true;
            return true;
        }

        private boolean takesEnd() {
            next();
            return token == ';';
        }

        private boolean takesNumber(int least, int most) {
            next();
            return token == NUMBER && number >= least && number <= most;
        }

        // A letter that is no TOKEN is its own token here: it can stand nowhere, and so it is the FAULT.
        private void next() {
            while (place < length && letters[place] == ' ') {
                place++;
            }
            start = place;
            number = 0;
            while (place < length && isDigit(letters[place])) {
                // 100 stands for all that is too much: a long row of digits must not wrap around
                number = Math.min(100, 10 * number + letters[place] - '0');
                place++;
            }
            if (place > start) {
                boolean zeroAhead = letters[start] == '0' && place - start > 1;
                token = number > 99 || zeroAhead ? WRONG : NUMBER;
            } else if (place < length) {
                token = letters[place];
                place++;
            } else {
                token = END;
            }
        }

        private static boolean isDigit(char letter) {
            return letter >= '0' && letter <= '9';
        }
    }

    /** NOW: all that is given, slept through and saved, and what an IMAGE keeps of it. */
    private static final class Standing {
        final int[] owner = {NOBODY, NOBODY, NOBODY, NOBODY, NOBODY};
        final int[] asleep = new int[MOST_PLAYERS];
        final int[] saved = new int[MOST_PLAYERS];
        int evenings = 0;

        void begin() {
            Arrays.fill(owner, NOBODY);
            Arrays.fill(asleep, 0);
            Arrays.fill(saved, 0);
            evenings = 0;
        }

        void become(Standing other) {
            System.arraycopy(other.owner, 0, owner, 0, MOST_PARTS);
            System.arraycopy(other.asleep, 0, asleep, 0, MOST_PLAYERS);
            System.arraycopy(other.saved, 0, saved, 0, MOST_PLAYERS);
            evenings = other.evenings;
        }
    }

    /** What stood before each of the latest deeds: a ring, in which the eleventh takes the oldest one's place. */
    private static final class Past {
        private final Standing[] before = new Standing[MOST_UNDONE];
        private int latest = 0;
        int known = 0;

        Past() {
            for (int i = 0; i < MOST_UNDONE; i++) {
                before[i] = new Standing();
            }
        }

        void remember(Standing standing) {
            latest = (latest + 1) % MOST_UNDONE;
            before[latest].become(standing);
            known = Math.min(MOST_UNDONE, known + 1);
        }

        void takeBack(Standing standing) {
            if (known > 0) {
                standing.become(before[latest]);
                latest = (latest + MOST_UNDONE - 1) % MOST_UNDONE;
                known--;
            }
        }

        void lose() {
            known = 0;
        }
    }

    /** Who should play, plays and RESTS where, and what it pays, once all are seated. */
    private static final class Stage {
        private final Told told;
        final int[] duty = new int[MOST_PLAYERS];
        final int[] plays = new int[MOST_PLAYERS];
        /** At k, the BARS in which just k REST: with it no BAR's share needs a division of its own. */
        private final int[] resting = new int[MOST_PLAYERS + 1];

        Stage(Told told) {
            this.told = told;
        }

        void seat(int[] owner, int[] asleep) {
            handOut(owner);
            letSleep(asleep);
        }

        void handOut(int[] owner) {
            Arrays.fill(duty, 0);
            for (int p = 0; p < told.parts; p++) {
                if (told.hasPlayer(owner[p])) {
                    duty[owner[p]] |= told.notes[p];
                }
            }
        }

        void letSleep(int[] asleep) {
            Arrays.fill(resting, 0);
            resting[0] = told.allBars();
            for (int m = 0; m < told.players; m++) {
                plays[m] = duty[m] & ~asleep[m];
                // where he plays, as many rest as before him; where not, one more
                for (int k = told.players; k > 0; k--) {
                    resting[k] = resting[k] & plays[m] | resting[k - 1] & ~plays[m];
                }
                resting[0] &= plays[m];
            }
        }

        int restersIn(int bar) {
            for (int k = told.players; k > 0; k--) {
                if ((resting[k] >> bar & 1) == 1) {
                    return k;
                }
            }
            return 0;
        }

        int nobodys() {
            return resting[told.players];
        }

        int tutti() {
            return told.players == 0 ? 0 : resting[0];
        }

        int pay(int m) {
            int pay = -told.fine * Integer.bitCount(duty[m] & ~plays[m]);
            for (int k = 1; k <= told.players; k++) {
                pay += cutFor(k) * Integer.bitCount(resting[k] & ~plays[m]);
            }
            return pay;
        }

        /** What a BAR brings to each of so many who REST in it: nobody has anything of one in which nobody does. */
        int cutFor(int resters) {
            return resters > 0 ? told.purse / resters : 0;
        }

        int payOfAll() {
            int all = 0;
            for (int m = 0; m < told.players; m++) {
                all += pay(m);
            }
            return all;
        }

        int gain(int m) {
            return pay(m) - told.needs[m];
        }

        boolean lives(int m) {
            return gain(m) >= 0;
        }

        boolean outOfBreath(int m) {
            return longestRun(duty[m]) > told.lung[m];
        }
    }

    /** SHARE: it hangs on what is told alone, so it is searched once for each score. */
    private static final class Sharing {
        private final Told told;
        private final Stage stage;
        private final int[] way = new int[MOST_PARTS];
        final int[] best = new int[MOST_PARTS];
        int least = NONE;
        private boolean searched = false;

        Sharing(Told told, Stage stage) {
            this.told = told;
            this.stage = stage;
        }

        void lose() {
            searched = false;
        }

        void search() {
            if (searched) {
                return;
            }
            searched = true;
            least = NONE;
            Arrays.fill(way, 0);
            int ways = howManyWays();
            for (int i = 0; i < ways; i++) {
                int poorest = poorestOfWay();
                if (poorest > least) {
                    least = poorest;
                    System.arraycopy(way, 0, best, 0, MOST_PARTS);
                }
                turnToNextWay();
            }
        }

        private int howManyWays() {
            if (told.players == 0) {
                return 0;
            }
            int ways = 1;
            for (int p = 0; p < told.parts; p++) {
                ways *= told.players;
            }
            return ways;
        }

        // NONE is below all that a way may bring, since nobody who LIVES is paid less than 0.
        private int poorestOfWay() {
            stage.handOut(way);
            for (int m = 0; m < told.players; m++) {
                if (stage.outOfBreath(m)) {
                    return NONE;
                }
            }
            stage.letSleep(AWAKE);
            int poorest = MOST_PAY;
            for (int m = 0; m < told.players; m++) {
                int pay = stage.pay(m);
                if (pay < told.needs[m]) {
                    return NONE;
                }
                poorest = Math.min(poorest, pay);
            }
            return poorest;
        }

        // The last PART goes round first, so that of equal ways the first comes first.
        private void turnToNextWay() {
            for (int p = told.parts - 1; p >= 0; p--) {
                way[p]++;
                if (way[p] < told.players) {
                    return;
                }
                way[p] = 0;
            }
        }
    }

    /** LEFT OUT of one PLAYER, of the stage as it is seated. */
    private static final class Omission {
        private final Told told;
        private final Stage stage;
        private final int[] brings = new int[MOST_BARS];
        private int played = 0;
        private int lack = 0;

        Omission(Told told, Stage stage) {
            this.told = told;
            this.stage = stage;
        }

        // What a BAR brings him hangs on no other BAR: he is one more who rests in it.
        void weigh(int m) {
            played = stage.plays[m];
            lack = -stage.gain(m);
            for (int bar = 0; bar < told.bars; bar++) {
                brings[bar] = stage.cutFor(stage.restersIn(bar) + 1);
            }
        }

        int fewest() {
            for (int many = 0; many <= Integer.bitCount(played); many++) {
                if (mostOf(played, many) >= lack) {
                    return many;
                }
            }
            return NONE;
        }

        // From the highest BAR down, each is spared without which the lower ones still bring enough.
        int leastOf(int many) {
            int chosen = 0;
            int lower = played;
            int more = many;
            int need = lack;
            for (int bar = MOST_BARS - 1; bar >= 0; bar--) {
                boolean playedHere = (played >> bar & 1) == 1;
                lower &= ~(1 << bar);
                if (playedHere && mostOf(lower, more) < need) {
                    chosen |= 1 << bar;
                    more--;
                    need -= brings[bar];
                }
            }
            return chosen;
        }

        private int mostOf(int bars, int many) {
            int sum = 0;
            int left = bars;
            for (int i = 0; i < many && left != 0; i++) {
                int bar = dearestOf(left);
                sum += brings[bar];
                left &= ~(1 << bar);
            }
            return sum;
        }

        private int dearestOf(int bars) {
            int dearest = 0;
            int most = -1;
            for (int bar = 0; bar < told.bars; bar++) {
                if ((bars >> bar & 1) == 1 && brings[bar] > most) {
                    dearest = bar;
                    most = brings[bar];
                }
            }
            return dearest;
        }
    }

    /** What all will have SAVED: the first evening as it is, each later one with nobody ASLEEP. */
    private static final class Outlook {
        private final Told told;
        private final Stage stage;
        private final int[] saved = new int[MOST_PLAYERS];
        private final int[] firstGain = new int[MOST_PLAYERS];
        private final int[] laterGain = new int[MOST_PLAYERS];

        Outlook(Told told, Stage stage) {
            this.told = told;
            this.stage = stage;
        }

        void begin(Standing standing) {
            System.arraycopy(standing.saved, 0, saved, 0, MOST_PLAYERS);
            stage.seat(standing.owner, standing.asleep);
            noteGains(firstGain);
            stage.seat(standing.owner, AWAKE);
            noteGains(laterGain);
        }

        private void noteGains(int[] gains) {
            for (int m = 0; m < told.players; m++) {
                gains[m] = stage.gain(m);
            }
        }

        void pass(boolean isFirst) {
            for (int m = 0; m < told.players; m++) {
                saved[m] = savedAfter(saved[m], isFirst ? firstGain[m] : laterGain[m]);
            }
        }

        boolean somebodyOwes() {
            for (int m = 0; m < told.players; m++) {
                if (saved[m] < 0) {
                    return true;
                }
            }
            return false;
        }

        boolean allHave(int n) {
            for (int m = 0; m < told.players; m++) {
                if (saved[m] < n) {
                    return false;
                }
            }
            return true;
        }
    }
}
