/** Terms 3, promises 13 to 26: each sentence that names a bound has a method of its own. */
public final class AdviceEdgesTest {
    private static final Edges edge = new Edges();
    private static final String TWELVE = "b12;p1nnnnnnnnnnnn;";
    private static final String BINARY = "b1;p1n;p2n;p4n;p8n;p9n;m1 0;m1 0;m1 0;m1 0;m1 0;";
    private static final String EACH_HAS_HIS = "gives(0,0)=NONE gives(1,1)=NONE gives(2,2)=NONE gives(3,3)=NONE gives(4,4)=NONE ";

    public static void main(String[] args) {
        shareWithoutPlayers();
        shareAllLive();
        shareBreath();
        shareLeastIsGreatest();
        shareFirst();
        shareOfWhatIsTold();
        shareWrong();
        costs();
        costsNobodys();
        exchangeOfFew();
        exchangeUnlike();
        exchangeMore();
        exchangeFirst();
        leftOutNothing();
        leftOutFewest();
        leftOutLeast();
        leftOutAsleep();
        leftOutWrong();
        nobodys();
        tutti();
        silence();
        barsWrong();
        heard();
        heardNobodys();
        first();
        sixNoted();
        notedNumbers();
        whoNothing();
        whoJustHe();
        whoNobody();
        brokeNow();
        brokeFirst();
        brokeFar();
        brokeAsleep();
        richNumbers();
        richAll();
        richFar();
        savedAhead();
        oddsOfOne();
        oddsOfFive();
        oddsOfNobody();
        oddsWhateverNow();
        oddsWrong();
        edge.end("AdviceEdgesTest");
    }

    private static String wrong(String call, String answer, String... numbers) {
        StringBuilder calls = new StringBuilder();
        for (String n : numbers) {
            calls.append(' ').append(call.replace("#", n)).append('=').append(answer);
        }
        return calls.toString();
    }

    // ---- SHARE

    private static void shareWithoutPlayers() {
        edge.sentence("NONE (no PLAYERS, too).");
        edge.run("", "share(-1)=NONE share(0)=NO");
        edge.run("b1;p1n;p1r;", "share(-1)=NONE share(0)=NONE share(1)=NONE share(2)=NO");
        edge.sentence("all ways to give all PARTS: there are none");
        edge.run("b1;m1 12;", "share(-1)=12 share(0)=NO");
        edge.run("b1;m1 13;", "share(-1)=NONE share(0)=NO");
        edge.run("b12;m1 99;w60;", "share(-1)=720");
    }

    private static void shareAllLive() {
        edge.sentence("by which all LIVE");
        edge.run("b1;p1n;m1 0;", "share(-1)=0 share(0)=0");
        edge.run("b1;p1n;m1 1;", "share(-1)=NONE share(0)=NONE");
        edge.run("b2;p1nr;p1rn;m1 12;m1 12;", "share(-1)=12 share(0)=0 share(1)=1");
        edge.run("b2;p1nr;p1rn;m1 12;m1 13;", "share(-1)=NONE share(0)=NONE share(1)=NONE");
        edge.run("b2;p1nr;p1rn;m1 13;m1 12;", "share(-1)=NONE share(0)=NONE share(1)=NONE");
        // just the last of all ways is one
        edge.run("b1;p1n;p1n;m1 12;m1 0;", "share(-1)=0 share(0)=1 share(1)=1");
        edge.run("b1;p1n;p1n;m1 13;m1 0;", "share(-1)=NONE share(0)=NONE share(1)=NONE");
    }

    private static void shareBreath() {
        edge.sentence("nobody is OUT OF BREATH");
        edge.run("b2;p1nn;m2 0;", "share(-1)=0 share(0)=0");
        edge.run("b2;p1nn;m1 0;", "share(-1)=NONE share(0)=NONE");
        edge.run("b2;p1nn;m1 0;m2 0;", "share(-1)=0 share(0)=1");
        edge.run("b12;p1nnnnnnnnnnnn;m11 0;m12 0;", "share(-1)=0 share(0)=1");
        edge.run("b12;p1nnnnnnnnnnnn;m11 0;m11 0;", "share(-1)=NONE share(0)=NONE");
        // two PARTS that one alone has no breath for
        edge.run("b2;p1nr;p1rn;m1 0;", "share(-1)=NONE share(0)=NONE share(1)=NONE");
        edge.run("b2;p1nr;p1rn;m2 0;", "share(-1)=0 share(0)=0 share(1)=0");
    }

    private static void shareLeastIsGreatest() {
        edge.sentence("that by which the least PAY is greatest");
        edge.run("b2;p1nr;p1rn;m2 0;m2 0;", "share(-1)=12 share(0)=0 share(1)=1");
        // bars 0, 1 by one, 2 by the other: 12 for who rests in one, 24 for who rests in two
        edge.run("b3;p1nnr;p1rrn;m9 0;m9 24;", "share(-1)=12 share(0)=0 share(1)=1");
        edge.run("b3;p1nnr;p1rrn;m9 24;m9 0;", "share(-1)=12 share(0)=1 share(1)=0");
        edge.run("b5;p1rrrrn;p1rrrnr;p1rrnrr;p1rnrrr;p1nrrrr;m1 0;m1 0;m1 0;m1 0;m1 0;",
            "share(-1)=12 share(0)=0 share(1)=1 share(2)=2 share(3)=3 share(4)=4");
    }

    private static void shareFirst() {
        edge.sentence("of several the first (PLAYER of PART 0, then 1, ..)");
        edge.run("b1;p1r;p1r;p1r;p1r;p1r;m1 0;m1 0;m1 0;m1 0;m1 0;",
            "share(-1)=2 share(0)=0 share(1)=0 share(2)=0 share(3)=0 share(4)=0");
        edge.run("b2;p1rr;p1nr;m1 0;m1 0;", "share(-1)=6 share(0)=0 share(1)=0");
        edge.run("b2;p1rr;p1nr;m1 18;m1 0;", "share(-1)=6 share(0)=0 share(1)=1");
        edge.run("b2;p1nr;p1rr;m1 18;m1 0;", "share(-1)=6 share(0)=1 share(1)=0");
    }

    private static void shareOfWhatIsTold() {
        edge.sentence("(nobody ASLEEP): neither who sleeps NOW nor whose PARTS are changes SHARE");
        edge.run("b2;p1nr;p1rn;m1 12;m1 12;f30;", "share(-1)=12 gives(0,1)=NONE gives(1,1)=NONE sleeps(0,0,1)=0 sleeps(1,0,1)=0"
            + " share(-1)=12 share(0)=0 share(1)=1 evening()=1 share(-1)=12 part(0,2)=1 part(1,2)=1 now(3)=5");
        PaidRests x = edge.run("b1;m1 12;", "share(-1)=12");
        edge.is("score of b1;m1 13;", 2, Due.tell(x, "b1;m1 13;"));
        edge.calls(x, "b1;m1 13;", "share(-1)=NONE");
        // whoever it is: each but one of five needs what he has when just that one plays
        for (int k = 0; k < 5; k++) {
            edge.run("b1;p1n;" + "m1 3;".repeat(k) + "m1 0;" + "m1 3;".repeat(4 - k), "share(-1)=0 share(0)=" + k);
        }
        edge.is("score of b1;x", -13, Due.tell(x, "b1;x"));
        edge.calls(x, "b1;x", "share(-1)=NONE clear()=4 score()=0 share(-1)=NONE");
    }

    private static void shareWrong() {
        edge.sentence("SHARE: how much (p = -1), the PLAYER of a PART; NONE. NO: BAD.");
        edge.run("b1;p1n;m1 0;", wrong("share(#)", "NO", "-2", "1", "5", "LOW", "HIGH") + " share(-1)=0 share(0)=0");
        edge.run("b1;p1n;m1 1;", wrong("share(#)", "NO", "-2", "1", "5", "LOW", "HIGH") + " share(-1)=NONE share(0)=NONE");
    }

    // ---- COSTS, EXCHANGE

    private static void costs() {
        edge.sentence("COSTS of a PART: by how much PAY of who has it would be more, if it were nobody's");
        edge.run(TWELVE + "m12 0;w60;", "gives(0,0)=NONE costs(0)=720 part(0,2)=0");
        edge.run(TWELVE + "m12 0;m1 0;w1;", "gives(0,0)=NONE costs(0)=0");
        edge.run("b2;p1rr;p1nn;p1nr;m9 0;", "gives(0,0)=NONE gives(1,0)=NONE gives(2,0)=NONE costs(0)=0 costs(1)=12 costs(2)=0");
        edge.run("b1;p1n;m1 0;f30;", "gives(0,0)=NONE costs(0)=12 sleeps(0,0,1)=0 costs(0)=30");
        edge.run("b1;p1n;m1 0;f0;", "gives(0,0)=NONE sleeps(0,0,1)=0 costs(0)=0");
    }

    private static void costsNobodys() {
        edge.sentence("(0: it is). COSTS. NO: BAD.");
        edge.run("", "costs(0)=NO costs(-1)=NO");
        edge.run("b1;p1n;", "costs(0)=0 costs(1)=NO");
        edge.run("b1;p1n;p1n;m1 0;", "costs(0)=0 gives(0,0)=NONE costs(1)=0 costs(0)=12 gives(0,-1)=0 costs(0)=0"
            + wrong("costs(#)", "NO", "-1", "2", "5", "LOW", "HIGH"));
    }

    private static void exchangeOfFew() {
        edge.sentence("EXCHANGE: the two PARTS; NONE");
        edge.run("", "exchange()=NONE");
        edge.run("b1;p1n;m1 0;", "exchange()=NONE gives(0,0)=NONE exchange()=NONE");
        edge.run("b1;p1n;p1r;", "exchange()=NONE");
    }

    private static void exchangeUnlike() {
        edge.sentence("of unlike PLAYERS (nobody is one, too)");
        edge.run("b1;p1n;p1r;m1 0;", "exchange()=NONE gives(0,0)=NONE exchange()=1 part(0,2)=0 part(1,2)=NONE gives(1,0)=NONE"
            + " exchange()=NONE gives(0,-1)=0 exchange()=NONE");
    }

    private static void exchangeMore() {
        edge.sentence("by whose being exchanged PAY of all is most together, if more than it is");
        // 12 for one, or 6 and 6: alike
        edge.run("b1;p1n;p1r;m1 0;m1 0;", "gives(0,0)=NONE exchange()=NONE gives(1,1)=NONE exchange()=NONE");
        // 13 for one, or 6 and 6: 1 more, the other way round 1 less
        edge.run("b1;p1n;p1r;m1 0;m1 0;w13;", "gives(0,0)=NONE exchange()=NONE gives(0,-1)=0 gives(1,0)=NONE exchange()=1");
        edge.run("b1;p1n;p1r;m1 0;m1 0;f1;", "gives(0,0)=NONE sleeps(0,0,1)=0 exchange()=1 gives(1,1)=NONE exchange()=1");
        edge.run("b1;p1n;p1r;m1 0;m1 0;f0;", "gives(0,0)=NONE sleeps(0,0,1)=0 exchange()=NONE");
    }

    private static void exchangeFirst() {
        edge.sentence("(10 times the lesser and the other one) .. of several the first");
        edge.run("b1;p1n;p1r;p1r;m1 0;", "gives(0,0)=NONE exchange()=1");
        edge.run("b1;p1r;p1r;p1n;m1 0;", "gives(2,0)=NONE exchange()=2");
        edge.run("b1;p1r;p1r;p1r;p1n;p1r;m1 0;", "gives(0,0)=NONE gives(1,0)=NONE gives(2,0)=NONE gives(3,0)=NONE exchange()=34");
        edge.run("b1;p1r;p1r;p1r;p1r;p1n;m1 0;", "gives(0,0)=NONE gives(1,0)=NONE gives(2,0)=NONE gives(4,0)=NONE exchange()=34");
        edge.run("b2;p1nr;p1nn;p1rr;m9 0;m9 0;", "gives(0,0)=NONE gives(1,0)=NONE exchange()=NONE gives(1,1)=0 exchange()=2");
        edge.run("b2;p1nr;p1rr;p1rn;p1rr;m9 0;", "gives(0,0)=NONE gives(2,0)=NONE exchange()=1");
        edge.run("b1;p1n;p1n;p1n;p1r;p1n;m1 0;m1 0;m1 0;m1 0;m1 0;w13;", "exchange()=NONE gives(0,0)=NONE gives(1,1)=NONE"
            + " gives(2,2)=NONE gives(3,4)=NONE coins(3,0)=6 coins(4,0)=6 exchange()=34");
        // a later one by which it is more goes ahead of the first: (0, 1) frees one BAR, (1, 2) two
        edge.run("b3;p1nrr;p1rrr;p1rnn;p1rrr;m9 0;", "gives(0,0)=NONE gives(2,0)=NONE exchange()=12");
    }

    // ---- LEFT OUT

    private static void leftOutNothing() {
        edge.sentence("the fewest BARS .. so that he LIVES: none, if he does");
        edge.run("b1;m1 12;", "leftOut(0,0)=0 leftOut(0,1)=0");
        edge.run("b1;p1n;m1 0;", "gives(0,0)=NONE leftOut(0,0)=0 leftOut(0,1)=0");
        edge.sentence("NONE: he has nothing to leave out, or all is not enough");
        edge.run("b1;m1 13;", "leftOut(0,0)=NONE leftOut(0,1)=NONE");
        edge.run("b1;p1n;m1 12;", "gives(0,0)=NONE leftOut(0,0)=1 leftOut(0,1)=1");
        edge.run("b1;p1n;m1 13;", "gives(0,0)=NONE leftOut(0,0)=NONE leftOut(0,1)=NONE");
    }

    private static void leftOutFewest() {
        edge.sentence("LEFT OUT of a PLAYER: the fewest BARS");
        edge.run("b2;p1nn;m2 12;", "gives(0,0)=NONE leftOut(0,0)=1 leftOut(0,1)=1");
        edge.run("b2;p1nn;m2 13;", "gives(0,0)=NONE leftOut(0,0)=2 leftOut(0,1)=3");
        edge.run("b2;p1nn;m2 24;", "gives(0,0)=NONE leftOut(0,0)=2 leftOut(0,1)=3");
        edge.run("b2;p1nn;m2 25;", "gives(0,0)=NONE leftOut(0,0)=NONE leftOut(0,1)=NONE");
        edge.run(TWELVE + "m12 12;w1;", "gives(0,0)=NONE leftOut(0,0)=12 leftOut(0,1)=4095");
        edge.run(TWELVE + "m12 13;w1;", "gives(0,0)=NONE leftOut(0,0)=NONE leftOut(0,1)=NONE");
        edge.run(TWELVE + "m12 99;w9;", "gives(0,0)=NONE leftOut(0,0)=11 leftOut(0,1)=2047 player(0,2)=4095 player(0,3)=0");
        edge.sentence("(all others as they are)");
        edge.run("b1;p1n;m1 6;m1 0;", "gives(0,0)=NONE leftOut(0,0)=1 leftOut(0,1)=1");
        edge.run("b1;p1n;m1 7;m1 0;", "gives(0,0)=NONE leftOut(0,0)=NONE leftOut(0,1)=NONE");
        edge.run("b1;p1n;p1n;m1 12;m1 0;", "gives(0,0)=NONE gives(1,1)=NONE leftOut(0,0)=1 sleeps(1,0,1)=0 leftOut(0,0)=NONE");
    }

    /** Bars 0 and 1 would bring player 0 six each, bar 2 twelve; of five players three, three, six and twelve. */
    private static void leftOutLeast() {
        edge.sentence("the BARS, as bits, of as few the least");
        int[][] due = {{0, 0, 0}, {1, 1, 1}, {6, 1, 1}, {7, 1, 4}, {12, 1, 4}, {13, 2, 5}, {18, 2, 5}, {19, 3, 7}, {24, 3, 7},
            {25, Edges.NONE, Edges.NONE}};
        for (int[] d : due) {
            edge.run("b3;p1nnn;p1rrn;m9 " + d[0] + ";m9 0;", "gives(0,0)=NONE gives(1,1)=NONE leftOut(0,0)=" + d[1]
                + " leftOut(0,1)=" + d[2]);
        }
        int[][] dueOfFive = {{0, 0, 0}, {3, 1, 1}, {4, 1, 4}, {6, 1, 4}, {7, 1, 8}, {12, 1, 8}, {13, 2, 9}, {15, 2, 9}, {16, 2, 12},
            {18, 2, 12}, {19, 3, 13}, {21, 3, 13}, {22, 4, 15}, {24, 4, 15}, {25, Edges.NONE, Edges.NONE}};
        for (int[] d : dueOfFive) {
            edge.run("b4;p1nnnn;p1nnnn;p1rrnn;p1rrnn;p1rrrn;m9 " + d[0] + ";m9 0;m9 0;m9 0;m9 0;", EACH_HAS_HIS
                + "leftOut(0,0)=" + d[1] + " leftOut(0,1)=" + d[2]);
        }
        // the first BAR brings most: 12, the other one 6
        edge.run("b2;p1nn;p1nr;m9 12;m9 0;", "gives(0,0)=NONE gives(1,1)=NONE leftOut(0,0)=1 leftOut(0,1)=1");
        // the first BAR brings 1, the other one is cut to nothing
        edge.run("b2;p1nn;p1nr;m9 1;m9 0;w1;", "gives(0,0)=NONE gives(1,1)=NONE leftOut(0,0)=1 leftOut(0,1)=1");
        edge.run("b2;p1nn;p1nr;m9 2;m9 0;w1;", "gives(0,0)=NONE gives(1,1)=NONE leftOut(0,0)=NONE leftOut(0,1)=NONE");
    }

    private static void leftOutAsleep() {
        edge.sentence("BARS in which he should play, and is not ASLEEP, to rest in instead");
        edge.run("b1;p1n;m1 8;", "gives(0,0)=NONE leftOut(0,0)=1 sleeps(0,0,1)=0 coins(0,0)=7 leftOut(0,0)=NONE leftOut(0,1)=NONE");
        edge.run("b2;p1nn;m2 0;f13;", "gives(0,0)=NONE sleeps(0,0,1)=0 coins(0,0)=-1 leftOut(0,0)=1 leftOut(0,1)=2");
        edge.run("b2;p1nn;m2 0;f24;", "gives(0,0)=NONE sleeps(0,0,1)=0 coins(0,0)=-12 leftOut(0,0)=1 leftOut(0,1)=2");
        edge.run("b2;p1nn;m2 0;f25;", "gives(0,0)=NONE sleeps(0,0,1)=0 coins(0,0)=-13 leftOut(0,0)=NONE leftOut(0,1)=NONE");
    }

    private static void leftOutWrong() {
        edge.sentence("LEFT OUT: how many (what = 0), which (1); NONE. BAD.");
        edge.run("", "leftOut(0,0)=BAD leftOut(-1,0)=BAD");
        edge.run("b1;m1 0;m1 99;", wrong("leftOut(#,0)", "BAD", "-1", "2", "5", "LOW", "HIGH")
            + wrong("leftOut(1,#)", "BAD", "-1", "2", "LOW", "HIGH") + wrong("leftOut(0,#)", "BAD", "-1", "2", "LOW", "HIGH"));
    }

    // ---- BARS

    private static void nobodys() {
        edge.sentence("NOBODY's: BARS (bits) in which nobody plays (he who should, and is not ASLEEP, plays).");
        edge.run(TWELVE + "m12 0;", "bars(0)=4095 gives(0,0)=NONE bars(0)=0 sleeps(0,0,1)=0 bars(0)=1 sleeps(0,11,1)=0 bars(0)=2049");
        edge.run(TWELVE, "bars(0)=4095");
        edge.run("b1;p1n;m1 0;", "bars(0)=1 gives(0,0)=NONE bars(0)=0");
        edge.run("b1;p1n;p1n;m1 0;m1 0;", "gives(0,0)=NONE gives(1,1)=NONE bars(0)=0 sleeps(0,0,1)=0 bars(0)=0 sleeps(1,0,1)=0"
            + " bars(0)=1");
    }

    private static void tutti() {
        edge.sentence("TUTTI: BARS in which each PLAYER plays (none without PLAYERS).");
        edge.run("", "bars(1)=0");
        edge.run(TWELVE, "bars(1)=0");
        edge.run(TWELVE + "m12 0;", "bars(1)=0 gives(0,0)=NONE bars(1)=4095 sleeps(0,11,1)=0 bars(1)=2047");
        edge.run(BINARY, "gives(0,0)=NONE gives(1,1)=NONE gives(2,2)=NONE gives(3,3)=NONE bars(1)=0 gives(4,4)=NONE bars(1)=1"
            + " sleeps(0,0,1)=0 bars(1)=0");
    }

    private static void silence() {
        edge.sentence("SILENCE: the most BARS that are NOBODY's, one behind another.");
        edge.run("", "bars(2)=8");
        edge.run(TWELVE + "m12 0;", "bars(2)=12 gives(0,0)=NONE bars(2)=0 sleeps(0,0,1)=0 bars(2)=1 sleeps(0,11,1)=0 bars(2)=1"
            + " sleeps(0,10,1)=0 bars(2)=2 sleeps(0,1,1)=0 bars(2)=2 sleeps(0,9,1)=0 bars(2)=3");
        edge.run("b12;p1rrnrrrnrrrrn;m1 0;", "gives(0,0)=NONE bars(2)=4");
        edge.run("b12;p1rrrrnrrrnrrn;m1 0;", "gives(0,0)=NONE bars(2)=4");
        edge.run("b12;p1nrrrrrrrrrrr;m1 0;", "gives(0,0)=NONE bars(2)=11");
    }

    private static void barsWrong() {
        edge.sentence("NOBODY's (what = 0), TUTTI (1), as bits; SILENCE (2). BAD.");
        edge.run("b1;m1 0;", wrong("bars(#)", "BAD", "-1", "3", "LOW", "HIGH"));
    }

    private static void heard() {
        edge.sentence("HEARD of a BAR: LOUD of all PARTS with a note in it whose PLAYERS are not ASLEEP in it, together");
        edge.run("b1;p9n;p9n;p9n;p9n;p9n;m1 0;", "heard(0)=0 gives(0,0)=NONE heard(0)=9 gives(1,0)=NONE gives(2,0)=NONE"
            + " gives(3,0)=NONE gives(4,0)=NONE heard(0)=45 sleeps(0,0,1)=0 heard(0)=0");
        edge.run(BINARY, EACH_HAS_HIS + "heard(0)=24 sleeps(4,0,1)=0 heard(0)=15 sleeps(0,0,1)=0 heard(0)=14");
        edge.run("b2;p1nr;m1 0;", "gives(0,0)=NONE heard(0)=1 heard(1)=0 sleeps(0,1,1)=0 heard(0)=1"
            + wrong("heard(#)", "BAD", "-1", "2", "12", "LOW", "HIGH") + wrong("rests(#)", "BAD", "-1", "2", "12", "LOW", "HIGH"));
    }

    private static void heardNobodys() {
        edge.sentence("(nobody's PARTS are not heard)");
        edge.run("b1;p9n;p1n;m1 0;", "heard(0)=0 gives(1,0)=NONE heard(0)=1 gives(1,-1)=0 heard(0)=0");
        edge.run("b1;p9n;", "heard(0)=0");
    }

    private static void first() {
        edge.sentence("FIRST who plays the most BARS, of several the lowest; NONE (no PLAYERS).");
        edge.run("", "first()=NONE");
        edge.run("b1;p1n;", "first()=NONE");
        edge.run("b1;m1 0;m1 0;m1 0;m1 0;m1 0;", "first()=0");
        edge.run("b2;p1nr;p1rn;p1nn;m9 0;m9 0;m9 0;m9 0;m9 0;", "gives(0,4)=NONE first()=4 gives(1,3)=NONE first()=3 gives(2,4)=NONE"
            + " first()=4 sleeps(4,0,1)=0 first()=3 sleeps(3,1,1)=0 first()=4 sleeps(4,1,1)=0 first()=0");
    }

    // ---- NOTED, WHO

    private static void sixNoted() {
        edge.sentence("NOTED (6 at most)");
        edge.run("b2;m1 0;", "noted(0,0)=1 noted(0,0)=2 noted(1,0)=3 noted(1,45)=4 noted(0,45)=5 noted(0,0)=6 noted(0,0)=FULL"
            + " noted(1,45)=FULL count(5)=6 noted(2,0)=BAD noted(-1,0)=BAD noted(0,46)=BAD noted(0,-1)=BAD count(5)=6 forget()=6"
            + " count(5)=0 forget()=0 noted(0,0)=1 forget()=1");
        // the sixth counts, the seventh doesn't
        edge.run("b1;m1 0;", "noted(0,0)=1 noted(0,0)=2 noted(0,0)=3 noted(0,0)=4 noted(0,0)=5 who()=33 noted(0,0)=6 noted(0,9)=FULL"
            + " who()=33 forget()=6 noted(0,0)=1 noted(0,0)=2 noted(0,0)=3 noted(0,0)=4 noted(0,0)=5 noted(0,9)=6 who()=0");
    }

    private static void notedNumbers() {
        edge.sentence("HEARD of a BAR was v (0 .. 45)");
        edge.run("b2;", wrong("noted(#,0)", "BAD", "-1", "2", "12", "LOW", "HIGH") + wrong("noted(0,#)", "BAD", "-1", "46", "LOW", "HIGH")
            + " count(5)=0 noted(0,0)=1 noted(1,45)=2 count(5)=2");
    }

    private static void whoNothing() {
        edge.sentence("Nothing was NOTED: how much there was.");
        edge.run("", "forget()=0 who()=32");
        edge.run(BINARY, "who()=63 noted(0,1)=1 who()=0 forget()=1 who()=63 forget()=0");
        edge.run("b1;p1n;", "noted(0,0)=1 who()=32 noted(0,1)=2 who()=0");
    }

    private static void whoJustHe() {
        edge.sentence("if just he had been ASLEEP in all BARS, nobody else in any");
        int[][] due = {{24, 32}, {23, 1}, {22, 2}, {20, 4}, {16, 8}, {15, 16}, {0, 0}, {25, 0}, {45, 0}};
        for (int[] d : due) {
            edge.run(BINARY, EACH_HAS_HIS + "noted(0," + d[0] + ")=1 who()=" + d[1] + " sleeps(0,0,1)=0 who()=" + d[1]);
        }
        edge.run("b2;p1nn;p1nn;m9 0;m9 0;", "gives(0,0)=NONE gives(1,1)=NONE noted(0,1)=1 who()=3 noted(1,1)=2 who()=3 noted(1,2)=3"
            + " who()=0");
        edge.run("b2;p1nr;p2rn;m9 0;m9 0;", "gives(0,0)=NONE gives(1,1)=NONE noted(1,2)=1 who()=33 noted(0,1)=2 who()=32 forget()=2"
            + " noted(0,1)=1 who()=34 noted(1,0)=2 who()=2");
        edge.run("b2;p1nn;p2nn;m9 0;m9 0;", "gives(0,0)=NONE gives(1,1)=NONE noted(0,1)=1 who()=2 noted(1,2)=2 who()=0");
    }

    private static void whoNobody() {
        edge.sentence("(32: if nobody was at all)");
        edge.run("b1;p9n;m1 0;", "noted(0,0)=1 who()=33 gives(0,0)=NONE who()=1 noted(0,9)=2 who()=0 forget()=2 noted(0,9)=1 who()=32");
        edge.run(BINARY, "gives(0,4)=NONE gives(1,4)=NONE gives(2,4)=NONE gives(3,4)=NONE gives(4,4)=NONE noted(0,24)=1 who()=47"
            + " forget()=1 noted(0,0)=1 who()=16");
    }

    // ---- BROKE, RICH

    private static void brokeNow() {
        edge.sentence("0: somebody has");
        edge.run("b1;p1n;m1 1;", "gives(0,0)=NONE broke()=1 evening()=0 coins(0,1)=-1 broke()=0 evening()=0 broke()=0");
        edge.run("b1;m1 2;m1 2;m1 2;m1 2;m1 3;", "broke()=1 evening()=4 broke()=0");
        // 0 is not less than 0; he who has less will have more, but has less NOW
        edge.run("b1;p1n;m1 0;", "gives(0,0)=NONE broke()=NONE 5*evening()=1 broke()=NONE");
        edge.run("b1;p1n;m1 12;w13;", "gives(0,0)=NONE evening()=0 gives(0,-1)=0 broke()=0 12*evening()=1 broke()=NONE");
    }

    private static void brokeFirst() {
        edge.sentence("somebody has SAVED less than 0 first; NONE");
        edge.run("", "broke()=NONE");
        edge.run("b1;p1n;", "broke()=NONE");
        edge.run("b1;m1 2;m1 2;m1 2;m1 2;m1 2;", "broke()=NONE");
        edge.run("b1;p1n;m1 4;m1 0;w12;", "gives(0,1)=NONE evening()=2 coins(0,1)=8 gives(0,0)=1 broke()=3");
        edge.run("b1;p1n;m1 5;m1 0;w12;", "gives(0,1)=NONE evening()=2 coins(0,1)=7 gives(0,0)=1 broke()=2");
    }

    private static void brokeFar() {
        edge.sentence("in how many EVENINGS (1 .. 300)");
        edge.run("b1;p1n;m1 1;m1 0;w9;f0;", "100*evening()=2 gives(0,0)=NONE coins(0,1)=300 broke()=NONE evening()=1 coins(0,1)=299"
            + " broke()=300 evening()=1 broke()=299 now(0)=102 coins(0,1)=298");
    }

    private static void brokeAsleep() {
        edge.sentence("nobody ASLEEP in any but the first one (as it is)");
        edge.run("b1;p1n;m1 5;f5;", "gives(0,0)=NONE broke()=1 sleeps(0,0,1)=0 broke()=2 player(0,3)=1 now(0)=0 now(3)=2 coins(0,1)=0");
        // whoever it is: asleep he has 1 more, awake 1 less
        for (int k = 0; k < 5; k++) {
            edge.run("b1;p1n;f0;" + "m1 0;".repeat(k) + "m1 1;" + "m1 0;".repeat(4 - k), "gives(0," + k + ")=NONE broke()=1 sleeps("
                + k + ",0,1)=0 broke()=3");
        }
        edge.run("b1;p1n;m1 5;f7;", "gives(0,0)=NONE sleeps(0,0,1)=0 broke()=2");
        edge.run("b1;p1n;m1 5;f8;", "gives(0,0)=NONE sleeps(0,0,1)=0 broke()=1");
        edge.run("b1;p1n;m1 0;f5;", "gives(0,0)=NONE rich(1)=NONE sleeps(0,0,1)=0 rich(7)=1 rich(8)=NONE player(0,3)=1");
    }

    private static void richNumbers() {
        edge.sentence("RICH by n (1 .. 999). BAD.");
        edge.run("", wrong("rich(#)", "BAD", "0", "-1", "1000", "LOW", "HIGH") + " rich(1)=0 rich(999)=0");
        edge.run("b9;m1 0;w37;", "rich(1)=1 rich(333)=1 rich(334)=2 rich(666)=2 rich(667)=3 rich(999)=3"
            + wrong("rich(#)", "BAD", "0", "-1", "1000", "LOW", "HIGH"));
    }

    private static void richAll() {
        edge.sentence("so all have n SAVED at least");
        edge.run("b1;m1 0;m1 6;", "rich(1)=NONE");
        edge.run("b1;m1 0;m1 5;", "rich(1)=1 rich(2)=2");
        edge.run("b1;m1 5;m1 0;", "rich(1)=1 rich(2)=2");
        edge.run("b1;m1 0;m1 0;m1 0;m1 0;m1 1;", "rich(1)=1 rich(2)=2 rich(3)=3");
        edge.run("b1;m1 3;", "evening()=1 rich(9)=0 rich(10)=1 rich(18)=1 rich(19)=2");
    }

    private static void richFar() {
        edge.sentence("in how many EVENINGS (0 .. 300); NONE.");
        edge.run("b1;m1 0;w1;", "rich(299)=299 rich(300)=300 rich(301)=NONE rich(999)=NONE evening()=1 rich(1)=0 rich(2)=1 rich(301)=300"
            + " rich(302)=NONE now(0)=1 coins(0,1)=1");
    }

    private static void savedAhead() {
        edge.sentence("SAVED (-9999 to 9999): in the EVENINGS that come, too");
        String all = " sleeps(0,0,1)=0 sleeps(0,1,1)=0 sleeps(0,2,1)=0 sleeps(0,3,1)=0 sleeps(0,4,1)=0 sleeps(0,5,1)=0";
        String more = " sleeps(0,6,1)=0 sleeps(0,7,1)=0 sleeps(0,8,1)=0 sleeps(0,9,1)=0 sleeps(0,10,1)=0 sleeps(0,11,1)=0";
        // 9780 last 287 evenings by 34; asleep in the first he would have 10106, and has 9999
        edge.run(TWELVE + "m12 34;m1 0;w60;f0;", "30*evening()=2 coins(0,1)=9780 gives(0,0)=NONE broke()=288" + all + more
            + " broke()=296");
        // from -9999 by 39 each evening; asleep in the first he would have -10002, and has -9999
        edge.run("b12;p1nnnnnnrrrrrr;p1nnnnnnnnnnnn;m12 99;w23;f30;", "gives(0,0)=NONE gives(1,0)=NONE 101*evening()=0"
            + " coins(0,1)=-9999 gives(1,-1)=0 coins(0,0)=138 rich(24)=257 rich(25)=258" + all + " coins(0,0)=96 rich(24)=258"
            + " rich(25)=259");
    }

    // ---- ODDS

    private static void oddsOfOne() {
        edge.sentence("ODDS of a BAR by p (0 .. 10), v (0 .. 46)");
        int[] upper = {1, 9, 4, 7, 3, 1, 2, 3, 1, 1, 0};
        int[] lower = {1, 10, 5, 10, 5, 2, 5, 10, 5, 10, 1};
        for (int p = 0; p <= 10; p++) {
            PaidRests x = edge.run("b1;p9n;m1 0;", "gives(0,0)=NONE");
            for (int v = 0; v <= 46; v++) {
                edge.is("odds(0, " + p + ", " + v + ", 0)", v == 0 ? 1 : v <= 9 ? upper[p] : 0, x.odds(0, p, v, 0));
                edge.is("odds(0, " + p + ", " + v + ", 1)", v == 0 ? 1 : v <= 9 ? lower[p] : 1, x.odds(0, p, v, 1));
            }
        }
    }

    private static void oddsOfFive() {
        edge.sentence("upper (what = 0), lower number (1), in least terms");
        edge.run("b1;p9n;p9n;p9n;p9n;p9n;m1 0;m1 0;m1 0;m1 0;m1 0;", EACH_HAS_HIS
            + "odds(0,3,45,0)=16807 odds(0,3,45,1)=100000 odds(0,1,1,0)=99999 odds(0,1,1,1)=100000 odds(0,9,45,0)=1"
            + " odds(0,9,45,1)=100000 odds(0,0,45,0)=1 odds(0,0,45,1)=1 odds(0,0,46,0)=0 odds(0,0,46,1)=1 odds(0,10,1,0)=0"
            + " odds(0,10,1,1)=1 odds(0,10,0,0)=1 odds(0,10,0,1)=1 odds(0,5,45,0)=1 odds(0,5,45,1)=32 odds(0,5,28,0)=3"
            + " odds(0,5,28,1)=16 odds(0,5,27,0)=1 odds(0,5,27,1)=2");
        // two PARTS of one PLAYER are slept through together
        edge.run("b1;p1n;p2n;m1 0;", "gives(0,0)=NONE gives(1,0)=NONE odds(0,3,3,0)=7 odds(0,3,3,1)=10 odds(0,3,1,0)=7 odds(0,3,1,1)=10"
            + " odds(0,3,4,0)=0 odds(0,3,4,1)=1");
    }

    private static void oddsOfNobody() {
        edge.sentence("each PLAYER who should play in it: nobody should");
        edge.run("", "odds(7,5,0,0)=1 odds(7,5,0,1)=1 odds(7,5,1,0)=0 odds(7,5,1,1)=1 odds(7,10,46,0)=0 odds(7,10,46,1)=1");
        edge.run("b1;p9n;", "odds(0,0,0,0)=1 odds(0,0,1,0)=0 odds(0,0,1,1)=1");
        edge.run("b2;p9nr;m1 0;m1 0;", "odds(0,3,1,0)=0 odds(0,3,1,1)=1 gives(0,0)=NONE odds(0,3,1,0)=7 odds(0,3,1,1)=10 odds(1,3,1,0)=0"
            + " odds(1,3,1,1)=1 odds(1,3,0,0)=1 odds(1,3,0,1)=1");
    }

    private static void oddsWhateverNow() {
        edge.sentence("(whatever he does NOW)");
        edge.run("b1;p9n;p9n;m1 0;m1 0;", "gives(0,0)=NONE gives(1,1)=NONE odds(0,4,18,0)=9 odds(0,4,18,1)=25 sleeps(0,0,1)=0"
            + " odds(0,4,18,0)=9 odds(0,4,18,1)=25 sleeps(1,0,1)=0 odds(0,0,18,0)=1 odds(0,4,1,0)=21 odds(0,4,1,1)=25 player(0,3)=1");
    }

    private static void oddsWrong() {
        edge.sentence("ODDS: .. BAD.");
        for (String what : new String[] {"0", "1"}) {
            edge.run("b2;p9nn;m9 0;", wrong("odds(#,0,0," + what + ")", "BAD", "-1", "2", "12", "LOW", "HIGH")
                + wrong("odds(0,#,0," + what + ")", "BAD", "-1", "11", "LOW", "HIGH")
                + wrong("odds(0,0,#," + what + ")", "BAD", "-1", "47", "LOW", "HIGH"));
        }
        edge.run("b2;p9nn;m9 0;", wrong("odds(0,0,0,#)", "BAD", "-1", "2", "LOW", "HIGH") + " odds(1,10,46,1)=1 odds(1,10,46,0)=0");
    }
}
