/** Terms 4, promises 27 to 29 and 31: each sentence that names a bound has a method of its own. */
public final class KindEdgesTest {
    private static final Edges edge = new Edges();
    private static final String LONG = "b12;p9nnnnnnnnnnnn;p1rrrrrrrrrrrr;p1rrrrrrrrrrrr;p1rrrrrrrrrrrr;p9nnnnnnnnnnnn;m12 0;w60;";

    public static void main(String[] args) {
        part();
        oboe();
        horn();
        solo();
        drum();
        fugue();
        rateWrong();
        traceAtFirst();
        traceEachOnce();
        traceOfRateAlone();
        traceStays();
        images();
        imagesKeepNow();
        nothingElse();
        nothingUndone();
        noneWasKept();
        imagesAreGone();
        imageNumbers();
        edge.end("KindEdgesTest");
    }

    // ---- RATE

    private static void part() {
        edge.sentence("PART how many notes it has (1).");
        edge.run(LONG, "rate(0,0)=12 rate(0,1)=0 rate(0,4)=12 trace()=3 gives(0,0)=NONE sleeps(0,0,1)=0 rate(0,0)=12");
        edge.run("b1;p1n;p1r;", "rate(0,0)=1 rate(0,1)=0");
    }

    private static void oboe() {
        edge.sentence("OBOE up, and LOUD (10).");
        edge.run(LONG, "rate(1,0)=21 rate(1,1)=1 rate(1,4)=21 trace()=33");
    }

    private static void horn() {
        edge.sentence("HORN up less what it COSTS (100).");
        edge.run(LONG, "rate(2,0)=12 gives(0,0)=NONE rate(2,0)=-708 rate(2,1)=0 gives(4,0)=NONE rate(2,0)=12 trace()=404");
        edge.run("b1;p1n;m1 0;f30;", "gives(0,0)=NONE rate(2,0)=-11 sleeps(0,0,1)=0 rate(2,0)=-29");
    }

    private static void solo() {
        edge.sentence("SOLO twice up (1000).");
        edge.run(LONG, "rate(3,0)=42 rate(3,1)=2 rate(3,4)=42 trace()=3033");
    }

    private static void drum() {
        edge.sentence("DRUM up, and its number (10000).");
        edge.run(LONG, "rate(4,0)=12 rate(4,1)=1 rate(4,4)=16 gives(4,0)=NONE rate(4,4)=-704 trace()=40404");
    }

    private static void fugue() {
        edge.sentence("FUGUE up, and EVENINGS (100000).");
        edge.run(LONG, "rate(5,0)=12 rate(5,1)=0 evening()=1 rate(5,1)=1 9*evening()=1 rate(5,4)=22 undo()=9 rate(5,4)=21 trace()=500005");
    }

    private static void rateWrong() {
        edge.sentence("RATE. NO: BAD.");
        edge.run("", "rate(0,0)=NO rate(5,-1)=NO trace()=0");
        edge.run("b1;p1n;p1r;", "rate(-1,0)=NO rate(6,0)=NO rate(LOW,0)=NO rate(HIGH,0)=NO rate(0,-1)=NO rate(0,2)=NO rate(0,5)=NO"
            + " rate(0,LOW)=NO rate(0,HIGH)=NO rate(3,2)=NO rate(4,-1)=NO rate(5,2)=NO rate(6,2)=NO trace()=0");
    }

    // ---- THE TRACE

    private static void traceAtFirst() {
        edge.sentence("THE TRACE, 0 at first");
        edge.run("", "trace()=0");
        edge.run("b1;p1n;", "trace()=0 rate(0,0)=1 trace()=1");
    }

    private static void traceEachOnce() {
        edge.sentence("as often as rate() asks that body: each once");
        edge.run("b1;p1n;m1 0;", "rate(0,0)=1 trace()=1 rate(1,0)=2 trace()=12 rate(2,0)=1 trace()=113 rate(3,0)=4 trace()=1124"
            + " rate(4,0)=1 trace()=11225 rate(5,0)=1 trace()=111226 gives(0,0)=NONE rate(4,0)=-11 trace()=121327");
        edge.run("b1;p1n;", "400*rate(5,0)=1 trace()=40000400");
        edge.run("b1;p1n;", "400*rate(4,0)=1 trace()=4040400");
    }

    private static void traceOfRateAlone() {
        edge.sentence("added to THE TRACE .. as rate() asks: no other call adds");
        edge.run("b1;p1n;p1r;m1 0;", "gives(0,0)=NONE costs(0)=12 exchange()=1 part(0,1)=1 player(0,2)=1 coins(0,0)=0 share(-1)=0"
            + " leftOut(0,0)=0 evening()=1 undo()=1 keep(0)=0 back(0)=0 noted(0,1)=1 who()=32 forget()=1 first()=0 trace()=0");
    }

    private static void traceStays() {
        edge.sentence("THE TRACE: neither undo() nor back() nor score() takes from it");
        edge.run("b1;p1n;m1 0;", "keep(0)=0 gives(0,0)=NONE rate(1,0)=2 undo()=0 trace()=11 back(0)=0 trace()=11 score()=0 trace()=11");
    }

    // ---- IMAGES

    private static void images() {
        edge.sentence("An IMAGE is kept: EVENINGS. BAD.");
        edge.run("", "keep(-1)=BAD keep(2)=BAD keep(LOW)=BAD keep(HIGH)=BAD keep(0)=0 evening()=0 keep(1)=1 evening()=0 keep(0)=2 now(0)=2"
            + " back(1)=1 back(0)=2 now(0)=2");
    }

    private static void imagesKeepNow() {
        edge.sentence("IMAGES 0, 1 keep NOW (whose PARTS are, who is ASLEEP where, SAVED, EVENINGS)");
        edge.run("b12;p1nnnnnnnnnnnn;p1rrrrrrrrrrrn;m12 0;m12 99;w2;", "keep(1)=0 gives(0,1)=NONE gives(1,0)=NONE sleeps(1,0,1)=0"
            + " sleeps(1,11,1)=0 evening()=1 sleeps(0,0,1)=0 sleeps(0,11,1)=0 coins(0,1)=21 coins(1,1)=-106 keep(0)=1 back(1)=0"
            + " part(0,2)=NONE part(1,2)=NONE player(0,3)=0 player(1,3)=0 coins(0,1)=0 coins(1,1)=0 now(0)=0 now(1)=3 back(0)=1"
            + " part(0,2)=1 part(1,2)=0 player(0,3)=2049 player(1,3)=0 coins(0,1)=21 coins(1,1)=-106 now(0)=1 now(1)=0");
        // an image is not changed by what is done behind it, nor by being taken
        edge.run("b1;p1n;m1 0;", "keep(0)=0 gives(0,0)=NONE sleeps(0,0,1)=0 evening()=1 back(0)=0 gives(0,0)=NONE back(0)=0"
            + " part(0,2)=NONE player(0,3)=0 coins(0,1)=0 now(0)=0");
    }

    private static void nothingElse() {
        edge.sentence("IMAGES 0, 1 keep NOW; nothing else");
        edge.run("b1;p1n;m1 0;", "noted(0,1)=1 type(98)=1 rate(0,0)=1 keep(0)=0 noted(0,1)=2 type(98)=2 rate(0,0)=1 keep(1)=0 evening()=1"
            + " back(0)=0 count(5)=2 count(6)=2 trace()=2 forget()=2 clear()=2 back(1)=0 count(5)=0 count(6)=0 trace()=2");
        edge.run("b1;p1n;m1 0;", "gives(0,0)=NONE evening()=1 now(3)=2 keep(0)=1 now(3)=2 undo()=1 undo()=0 now(0)=0");
    }

    private static void nothingUndone() {
        edge.sentence("(nothing can be UNDONE behind back())");
        edge.run("b1;p1n;m1 0;", "10*evening()=1 keep(0)=10 now(3)=10 back(0)=10 now(3)=0 undo()=STATE now(0)=10 evening()=1 now(3)=1"
            + " undo()=0 now(0)=10 undo()=STATE gives(0,0)=NONE back(1)=STATE now(3)=1 back(2)=BAD now(3)=1 undo()=0 part(0,2)=NONE");
    }

    private static void noneWasKept() {
        edge.sentence("All of that becomes as an IMAGE has it: EVENINGS. BAD; STATE: none was kept.");
        edge.run("", "back(0)=STATE back(1)=STATE back(-1)=BAD back(2)=BAD back(LOW)=BAD back(HIGH)=BAD keep(0)=0 back(1)=STATE back(0)=0"
            + " keep(1)=0 back(1)=0 back(2)=BAD back(-1)=BAD");
        edge.run("", "keep(1)=0 back(0)=STATE back(1)=0");
    }

    private static void imagesAreGone() {
        edge.sentence("(Read anew: .. IMAGES are gone.)");
        edge.run("b1;p1n;m1 0;", "keep(0)=0 keep(1)=0 score()=0 back(0)=STATE back(1)=STATE keep(0)=0 back(0)=0 back(1)=STATE");
        // a text that is not read leaves them
        edge.run("b1;p1n;m1 0;", "gives(0,0)=NONE keep(0)=0 gives(0,-1)=0 type(59)=1 score()=-10 back(0)=0 part(0,2)=0");
    }

    private static void imageNumbers() {
        edge.sentence("IMAGES 0, 1: no other one is kept or taken");
        for (int image : new int[] {Edges.LOW, -32, -1, 2, 3, 31, 32, 33, 64, 256, Edges.HIGH}) {
            edge.run("b1;p1n;m1 0;", "keep(0)=0 keep(1)=0 gives(0,0)=NONE keep(" + image + ")=BAD back(" + image + ")=BAD part(0,2)=0"
                + " now(3)=1 back(0)=0 part(0,2)=NONE gives(0,0)=NONE back(1)=0 part(0,2)=NONE");
        }
    }
}
