/** Terms 2, promises 5 to 12: each sentence that names a bound has a method of its own. */
public final class DeedEdgesTest {
    private static final Edges edge = new Edges();
    private static final String FIVE = "b1;p1n;p1n;p1n;p1n;p1n;m1 0;m1 0;m1 0;m1 0;m1 0;";

    public static void main(String[] args) {
        given();
        shouldPlay();
        asleep();
        rests();
        cut();
        nobodyRests();
        pay();
        payBelowZero();
        lives();
        outOfBreath();
        breathOfTwoParts();
        saved();
        savedIsFull();
        savedComesBack();
        nobodyAsleepAnyMore();
        eveningsAreCounted();
        evening999();
        lived();
        slept();
        undone();
        tenAreKnown();
        olderOnesAreLost();
        ringOfTheUndone();
        refusedOnesAreNotKnown();
        undoneIsNothingElse();
        part();
        player();
        coins();
        now();
        gives();
        sleeps();
        edge.end("DeedEdgesTest");
    }

    // ---- whose PARTS are, who RESTS

    private static void given() {
        edge.sentence("A PART is GIVEN to a PLAYER, or to nobody (at first).");
        edge.run("b1;p1n;m1 0;", "part(0,2)=NONE now(1)=1 player(0,6)=0 gives(0,0)=NONE part(0,2)=0 now(1)=0 player(0,6)=1"
            + " gives(0,-1)=0 part(0,2)=NONE now(1)=1 player(0,6)=0");
        edge.run(FIVE, "now(1)=31 gives(4,4)=NONE now(1)=15 player(4,6)=16 part(4,2)=4 gives(0,4)=NONE gives(1,4)=NONE"
            + " gives(2,4)=NONE gives(3,4)=NONE player(4,6)=31 now(1)=0 gives(0,0)=4 player(4,6)=30 player(0,6)=1");
        edge.run("b1;p1n;", "gives(0,0)=BAD gives(0,-1)=NONE part(0,2)=NONE now(1)=1");
    }

    private static void shouldPlay() {
        edge.sentence("A PLAYER SHOULD PLAY in a BAR, if some PART that is his has a note in it.");
        edge.run("b12;p1nnnnnnnnnnnn;p1rrrrrrrrrrrr;m12 0;", "player(0,2)=0 gives(1,0)=NONE player(0,2)=0 gives(0,0)=NONE"
            + " player(0,2)=4095 gives(0,-1)=0 player(0,2)=0");
        edge.run("b3;p1nnr;p1rnn;m9 0;m9 0;", "gives(0,1)=NONE player(1,2)=3 gives(1,1)=NONE player(1,2)=7 player(0,2)=0"
            + " gives(0,0)=1 player(1,2)=6 player(0,2)=3");
    }

    private static void asleep() {
        edge.sentence("ASLEEP: in that BAR, this evening.");
        edge.run("b12;p1nnnnnnnnnnnn;m12 0;m1 0;", "gives(0,0)=NONE sleeps(0,0,1)=0 player(0,3)=1 sleeps(0,11,1)=0"
            + " player(0,3)=2049 player(1,3)=0 player(0,2)=4095 rests(0)=2 rests(1)=1 rests(10)=1 rests(11)=2");
    }

    private static void rests() {
        edge.sentence("He RESTS in each BAR in which he should not play, or is ASLEEP.");
        edge.run("b2;p1nr;m1 0;", "rests(0)=1 rests(1)=1 gives(0,0)=NONE rests(0)=0 rests(1)=1 now(2)=1 sleeps(0,0,1)=0"
            + " rests(0)=1 sleeps(0,1,1)=0 rests(1)=1 now(2)=2");
        edge.run("", "rests(0)=0 rests(7)=0 now(2)=0");
        edge.run("b12;m1 0;m1 0;m1 0;m1 0;m1 0;", "rests(0)=5 rests(11)=5 now(2)=60");
        edge.run(FIVE, "gives(0,0)=NONE gives(1,1)=NONE gives(2,2)=NONE gives(3,3)=NONE rests(0)=1 gives(4,4)=NONE"
            + " rests(0)=0 now(2)=0 sleeps(3,0,1)=0 rests(0)=1 now(2)=1");
    }

    // ---- PAY

    private static void cut() {
        edge.sentence("Each BAR brings PURSE coins: shared alike (cut) by all who REST in it.");
        for (int players = 1; players <= 5; players++) {
            for (int purse = 1; purse <= 60; purse++) {
                PaidRests x = new PaidRests();
                Due.tell(x, "b12;w" + purse + ";" + "m1 0;".repeat(players));
                int shared = (purse - purse % players) / players;
                edge.is(purse + " by " + players, 12 * shared, x.coins(players - 1, 0));
            }
        }
        // the least PURSE is lost among two; each BAR is cut for itself: 3 + 3 of 7, not 14 / 4
        edge.run("b12;m1 0;m1 0;w1;", "coins(0,0)=0 coins(1,0)=0");
        edge.run("b2;m1 0;m1 0;w7;", "coins(0,0)=6 coins(1,0)=6");
        edge.run("b12;m1 0;w60;", "coins(0,0)=720");
    }

    private static void nobodyRests() {
        edge.sentence("shared .. by all who REST in it: nobody does");
        edge.run("b1;p1n;m1 0;w60;", "gives(0,0)=NONE coins(0,0)=0 rests(0)=0 exchange()=NONE costs(0)=60");
        edge.run(FIVE, "gives(0,0)=NONE gives(1,1)=NONE gives(2,2)=NONE gives(3,3)=NONE coins(4,0)=12 coins(0,0)=0"
            + " gives(4,4)=NONE coins(0,0)=0 coins(4,0)=0");
    }

    private static void pay() {
        edge.sentence("less FINE for each one in which he should play, and is ASLEEP");
        edge.run("b2;p1nr;m1 0;w12;f5;", "gives(0,0)=NONE coins(0,0)=12 sleeps(0,1,1)=0 coins(0,0)=12 sleeps(0,0,1)=0"
            + " coins(0,0)=19 sleeps(0,0,0)=1 coins(0,0)=12 sleeps(0,0,1)=0 gives(0,-1)=0 coins(0,0)=24");
        edge.run("b1;p1n;m1 0;f0;", "gives(0,0)=NONE sleeps(0,0,1)=0 coins(0,0)=12");
        // one FINE for a BAR, however many PARTS of his have a note in it
        edge.run("b1;p1n;p1n;m1 0;w30;f30;", "gives(0,0)=NONE gives(1,0)=NONE sleeps(0,0,1)=0 coins(0,0)=0");
    }

    private static void payBelowZero() {
        edge.sentence("(it may be below 0)");
        edge.run("b12;p1nnnnnnnnnnnn;m12 0;w1;f30;", "gives(0,0)=NONE coins(0,0)=0" + sleepsIn(12) + " coins(0,0)=-348"
            + " player(0,4)=0 evening()=0 coins(0,1)=-348 coins(0,0)=0");
        edge.run("b1;p1n;m1 0;w12;f12;", "gives(0,0)=NONE sleeps(0,0,1)=0 coins(0,0)=0 player(0,4)=1");
        edge.run("b1;p1n;m1 0;w12;f13;", "gives(0,0)=NONE sleeps(0,0,1)=0 coins(0,0)=-1 player(0,4)=0");
    }

    private static String sleepsIn(int bars) {
        StringBuilder calls = new StringBuilder();
        for (int bar = 0; bar < bars; bar++) {
            calls.append(" sleeps(0,").append(bar).append(",1)=0");
        }
        return calls.toString();
    }

    private static void lives() {
        edge.sentence("He LIVES, if PAY is NEEDS at least");
        edge.run("b1;m1 11;", "coins(0,0)=12 player(0,4)=1");
        edge.run("b1;m1 12;", "coins(0,0)=12 player(0,4)=1");
        edge.run("b1;m1 13;", "coins(0,0)=12 player(0,4)=0");
        edge.run("b9;m1 99;w11;", "coins(0,0)=99 player(0,4)=1");
        edge.run("b7;m1 99;w14;", "coins(0,0)=98 player(0,4)=0");
        edge.run("b1;p1n;m1 0;", "gives(0,0)=NONE coins(0,0)=0 player(0,4)=1");
        edge.run("b1;p1n;m1 1;", "gives(0,0)=NONE coins(0,0)=0 player(0,4)=0");
        // out of breath he LIVES all the same
        edge.run("b3;p1nnr;m1 12;", "gives(0,0)=NONE player(0,5)=1 player(0,4)=1");
    }

    private static void outOfBreath() {
        edge.sentence("he is OUT OF BREATH, if he should play in more BARS, one behind another, than LUNG");
        for (int lung = 1; lung <= 12; lung++) {
            for (int run = 0; run <= 12; run++) {
                int out = run > lung ? 1 : 0;
                String rests = "r".repeat(12 - run), notes = "n".repeat(run);
                edge.run("b12;p1" + notes + rests + ";p1" + rests + notes + ";m" + lung + " 0;",
                    "player(0,5)=0 gives(0,0)=NONE player(0,5)=" + out + " gives(0,-1)=0 gives(1,0)=NONE player(0,5)=" + out);
            }
        }
        edge.run("b12;p1nrnrnrnrnrnr;m1 0;", "gives(0,0)=NONE player(0,5)=0");
        edge.run("b12;p1nnrnnrnnrnnr;m2 0;", "gives(0,0)=NONE player(0,5)=0");
        edge.run("b12;p1nnrnnrnnrnnr;m1 0;", "gives(0,0)=NONE player(0,5)=1");
        edge.run("b4;p1nrnn;m1 0;", "gives(0,0)=NONE player(0,5)=1");
        // the last BAR is not followed by the first one
        edge.run("b4;p1nrrn;m1 0;", "gives(0,0)=NONE player(0,5)=0");
        edge.run("b12;p1nrrrrrrrrrrn;m1 0;", "gives(0,0)=NONE player(0,5)=0");
        // he should play, asleep or not
        edge.run("b3;p1nnn;m2 0;", "gives(0,0)=NONE player(0,5)=1 sleeps(0,1,1)=0 player(0,5)=1");
    }

    private static void breathOfTwoParts() {
        edge.sentence("OUT OF BREATH: by all PARTS of his together");
        edge.run("b5;p1nnrnn;p1rrnrr;m4 0;m1 0;", "gives(0,0)=NONE player(0,5)=0 gives(1,0)=NONE player(0,5)=1 gives(1,1)=0"
            + " player(0,5)=0 player(1,5)=0");
        edge.run("b5;p1nnrnn;p1rrnrr;m5 0;", "gives(0,0)=NONE gives(1,0)=NONE player(0,5)=0");
    }

    // ---- EVENINGS

    private static void saved() {
        edge.sentence("each has PAY less NEEDS SAVED (.. 0 at first)");
        edge.run("b1;m1 12;m1 0;m1 99;w36;", "coins(0,1)=0 coins(1,1)=0 coins(2,1)=0 evening()=2 coins(0,1)=0 coins(1,1)=12"
            + " coins(2,1)=-87 evening()=2 coins(0,1)=0 coins(1,1)=24 coins(2,1)=-174");
    }

    private static void savedIsFull() {
        edge.sentence("SAVED (-9999 to 9999");
        edge.run("b9;m1 0;w11;", "100*evening()=1 coins(0,1)=9900 evening()=1 coins(0,1)=9999 evening()=1 coins(0,1)=9999"
            + " undo()=9 coins(0,1)=9999 undo()=8 coins(0,1)=9900");
        edge.run("b7;m1 0;w14;", "102*evening()=1 coins(0,1)=9996 evening()=1 coins(0,1)=9999 undo()=9 coins(0,1)=9996");
        edge.run("b1;p1n;m1 99;", "gives(0,0)=NONE 100*evening()=0 coins(0,1)=-9900 evening()=0 coins(0,1)=-9999 evening()=0"
            + " coins(0,1)=-9999 undo()=9 coins(0,1)=-9999 undo()=8 coins(0,1)=-9900");
        edge.run("b1;p1n;m1 98;", "gives(0,0)=NONE 102*evening()=0 coins(0,1)=-9996 evening()=0 coins(0,1)=-9999 undo()=9"
            + " coins(0,1)=-9996");
        // one is full, another is not
        edge.run("b12;m1 0;m1 99;w60;", "27*evening()=2 coins(0,1)=9720 coins(1,1)=7047 evening()=2 coins(0,1)=9999 coins(1,1)=7308");
    }

    private static void savedComesBack() {
        edge.sentence("SAVED (-9999 to 9999: what was cut off does not come back");
        edge.run("b3;p1nnn;m9 1;w60;", "56*evening()=1 coins(0,1)=9999 gives(0,0)=NONE evening()=0 coins(0,1)=9998");
        edge.run("b3;p1nnn;m9 99;w60;", "gives(0,0)=NONE 102*evening()=0 coins(0,1)=-9999 gives(0,-1)=0 evening()=1"
            + " coins(0,1)=-9918");
    }

    private static void nobodyAsleepAnyMore() {
        edge.sentence("nobody is ASLEEP any more");
        edge.run("b12;p1nnnnnnnnnnnn;m12 0;m1 0;", "gives(0,0)=NONE" + sleepsIn(12) + " sleeps(1,11,1)=0 player(0,3)=4095"
            + " player(1,3)=2048 evening()=2 player(0,3)=0 player(1,3)=0 part(0,2)=0 sleeps(0,0,1)=0");
    }

    private static void eveningsAreCounted() {
        edge.sentence("EVENINGS are counted (0 at first");
        edge.run("", "now(0)=0 evening()=0 now(0)=1 evening()=0 now(0)=2 undo()=1 now(0)=1 undo()=0 now(0)=0");
    }

    private static void evening999() {
        edge.sentence("STATE: it is EVENING 999.");
        PaidRests x = new PaidRests();
        Due.tell(x, "b1;p1n;m1 0;w1;");
        edge.calls(x, "999 evenings", "998*evening()=1 now(0)=998 evening()=1 now(0)=999 sleeps(0,0,1)=0 evening()=STATE"
            + " now(0)=999 coins(0,1)=999 player(0,3)=1 now(3)=10 keep(0)=999 gives(0,0)=NONE rate(5,0)=1000 evening()=STATE"
            + " undo()=9 undo()=8 undo()=7 now(0)=998 coins(0,1)=998 evening()=1 now(0)=999 evening()=STATE back(0)=999"
            + " evening()=STATE now(3)=0");
    }

    private static void lived() {
        edge.sentence("An EVENING: how many LIVED by it.");
        edge.run("", "evening()=0");
        edge.run("b1;m1 99;", "evening()=0");
        edge.run("b1;m1 2;m1 2;m1 2;m1 3;m1 2;", "evening()=4");
        edge.run("b1;m1 0;m1 0;m1 0;m1 0;m1 0;", "evening()=5");
        // by this evening's PAY, not by what is SAVED, and asleep as they are
        edge.run("b1;p1n;m1 7;", "5*evening()=1 gives(0,0)=NONE evening()=0 sleeps(0,0,1)=0 evening()=1 evening()=0");
    }

    private static void slept() {
        edge.sentence("SLEEPS: a PLAYER in a BAR, or is awake in it again.");
        edge.run("b2;m1 0;", "sleeps(0,1,0)=0 sleeps(0,1,1)=0 sleeps(0,1,1)=1 player(0,3)=2 sleeps(0,0,0)=0 sleeps(0,1,0)=1"
            + " sleeps(0,1,0)=0 player(0,3)=0");
    }

    // ---- UNDONE

    private static void undone() {
        edge.sentence("UNDONE: the latest gives(), sleeps(), evening()");
        edge.run("", "undo()=STATE now(3)=0 undo()=STATE");
        edge.run("b2;p1nr;m1 5;", "undo()=STATE gives(0,0)=NONE undo()=0 undo()=STATE part(0,2)=NONE sleeps(0,1,1)=0 undo()=0"
            + " undo()=STATE player(0,3)=0 sleeps(0,1,1)=0 evening()=1 coins(0,1)=19 undo()=1 coins(0,1)=0 now(0)=0"
            + " player(0,3)=2 undo()=0 player(0,3)=0");
        edge.run("b2;p1nr;m1 5;", "gives(0,0)=NONE gives(0,0)=0 sleeps(0,0,0)=0 now(3)=3 undo()=2 undo()=1 part(0,2)=0 undo()=0"
            + " part(0,2)=NONE undo()=STATE");
    }

    private static void tenAreKnown() {
        edge.sentence("(10 are known");
        StringBuilder calls = new StringBuilder();
        for (int i = 0; i < 10; i++) {
            calls.append(" now(3)=").append(i).append(" gives(0,").append(i % 5).append(")=").append(i == 0 ? "NONE" : (i - 1) % 5);
        }
        calls.append(" now(3)=10");
        for (int i = 9; i >= 0; i--) {
            calls.append(" part(0,2)=").append(i % 5).append(" undo()=").append(i).append(" now(3)=").append(i);
        }
        edge.run(FIVE, calls + " part(0,2)=NONE undo()=STATE now(3)=0");
    }

    private static void olderOnesAreLost() {
        edge.sentence("older ones are lost)");
        edge.run("b1;p1n;m1 0;m1 0;", "gives(0,0)=NONE now(3)=1 9*evening()=2 now(3)=10 evening()=2 now(3)=10"
            + " undo()=9 undo()=8 undo()=7 undo()=6 undo()=5 undo()=4 undo()=3 undo()=2 undo()=1 undo()=0"
            + " now(0)=0 undo()=STATE part(0,2)=0");
        edge.run("b1;p1n;m1 0;m1 0;", "gives(0,0)=NONE gives(0,1)=0 evening()=2 9*evening()=2 now(3)=10"
            + " undo()=9 undo()=8 undo()=7 undo()=6 undo()=5 undo()=4 undo()=3 undo()=2 undo()=1 undo()=0"
            + " undo()=STATE part(0,2)=1 now(0)=0");
    }

    private static void ringOfTheUndone() {
        edge.sentence("10 are known, older ones are lost: many times around");
        for (int deeds = 0; deeds <= 34; deeds++) {
            for (int back = 1; back <= 10 && back <= deeds; back++) {
                PaidRests x = new PaidRests();
                edge.calls(x, deeds + " evenings", deeds + "*evening()=0 now(3)=" + Math.min(10, deeds));
                int known = Math.min(10, deeds);
                for (int i = 1; i <= back; i++) {
                    edge.is("undo() behind " + deeds + " evenings", known - i, x.undo());
                }
                edge.is("now(0)", deeds - back, x.now(0));
                edge.calls(x, "three more", "3*evening()=0 now(0)=" + (deeds - back + 3) + " now(3)=" + Math.min(10, known - back + 3));
                edge.is("undo() of one more", Math.min(10, known - back + 3) - 1, x.undo());
                edge.is("now(0)", deeds - back + 2, x.now(0));
            }
        }
    }

    private static void refusedOnesAreNotKnown() {
        edge.sentence("that was not refused");
        edge.run("b1;p1n;m1 0;", "gives(1,0)=BAD gives(0,1)=BAD sleeps(1,0,1)=BAD sleeps(0,1,1)=BAD sleeps(0,0,2)=BAD now(3)=0"
            + " undo()=STATE gives(0,0)=NONE gives(0,-2)=BAD sleeps(0,0,-1)=BAD now(3)=1 undo()=0 part(0,2)=NONE undo()=STATE");
    }

    private static void undoneIsNothingElse() {
        edge.sentence("the latest gives(), sleeps(), evening(): nothing else is UNDONE");
        edge.run("b1;p1n;m1 0;", "gives(0,0)=NONE noted(0,1)=1 keep(0)=0 rate(0,0)=1 type(98)=1 now(3)=1 undo()=0 count(5)=1"
            + " trace()=1 count(6)=1 part(0,2)=NONE back(0)=0 part(0,2)=0 undo()=STATE forget()=1 clear()=1 undo()=STATE");
    }

    // ---- wrong numbers

    private static void part() {
        edge.sentence("Of a PART: 0 LOUD, 1 its notes (BARS as bits), 2 whose it is (NONE). BAD.");
        edge.run("b2;p1nr;p9rn;m1 0;", "part(0,0)=1 part(1,0)=9 part(0,1)=1 part(1,1)=2 part(0,2)=NONE gives(1,0)=NONE part(1,2)=0"
            + wrong("part(#,0)=BAD", "2") + wrong("part(0,#)=BAD", "3") + wrong("part(#,2)=BAD", "5") + " part(2,3)=BAD");
    }

    private static String wrong(String call, String above) {
        StringBuilder calls = new StringBuilder();
        for (String n : new String[] {"-1", above, "LOW", "HIGH", "32", "-32"}) {
            calls.append(' ').append(call.replace("#", n));
        }
        return calls.toString();
    }

    private static void player() {
        edge.sentence("Of a PLAYER: 0 LUNG .. 6 his PARTS (bits). BAD.");
        edge.run("b2;p1nn;m1 12;m12 99;", "gives(0,1)=NONE sleeps(1,1,1)=0 player(0,0)=1 player(1,0)=12 player(0,1)=12"
            + " player(1,1)=99 player(1,2)=3 player(1,3)=2 player(0,4)=1 player(1,4)=0 player(1,5)=0 player(1,6)=1"
            + wrong("player(#,0)=BAD", "2") + wrong("player(0,#)=BAD", "7") + wrong("player(#,6)=BAD", "5"));
    }

    private static void coins() {
        edge.sentence("PAY of a PLAYER (what = 0), what he SAVED (1). NO: BAD.");
        edge.run("b1;p1n;m1 13;m1 0;f13;", "gives(0,0)=NONE sleeps(0,0,1)=0 coins(0,0)=-7 coins(0,1)=0 evening()=1 coins(0,1)=-20"
            + wrong("coins(#,0)=NO", "2") + wrong("coins(0,#)=NO", "2") + wrong("coins(#,1)=NO", "5"));
    }

    private static void now() {
        edge.sentence("0 EVENINGS, 1 PARTS that are nobody's (bits), 2 how many REST .., 3 how many may be UNDONE. BAD.");
        edge.run("b1;p1n;m1 0;", "now(0)=0 now(1)=1 now(2)=1 now(3)=0" + wrong("now(#)=BAD", "4"));
    }

    private static void gives() {
        edge.sentence("GIVEN (m = -1: to nobody): whose it was (NONE). BAD.");
        edge.run(FIVE, "gives(0,-1)=NONE gives(0,4)=NONE gives(0,4)=4 gives(0,-1)=4 gives(0,-1)=NONE gives(4,0)=NONE"
            + wrong("gives(#,0)=BAD", "5") + " gives(0,-2)=BAD gives(0,5)=BAD gives(0,LOW)=BAD gives(0,HIGH)=BAD gives(0,-9)=BAD"
            + " gives(-1,-1)=BAD gives(5,-1)=BAD now(3)=6 part(0,2)=NONE part(4,2)=0");
    }

    private static void sleeps() {
        edge.sentence("SLEEPS (1), is awake (0): what he did. BAD.");
        edge.run("b12;m1 0;m1 0;", "sleeps(0,0,1)=0 sleeps(1,11,1)=0 sleeps(1,11,0)=1" + wrong("sleeps(#,0,1)=BAD", "2")
            + wrong("sleeps(0,#,1)=BAD", "12") + wrong("sleeps(0,0,#)=BAD", "2") + wrong("sleeps(0,#,0)=BAD", "12")
            + " now(3)=3 player(0,3)=1 player(1,3)=0");
        edge.run("b1;m1 0;", "sleeps(0,1,1)=BAD sleeps(0,0,1)=0 sleeps(0,1,0)=BAD player(0,3)=1");
    }
}
