/**
 * Of several refusals what is told first (terms 4), and the last of 512 calls. That what is refused
 * changes nothing is looked at behind every run with a refusal: see Edge.
 */
public final class RefusalEdgesTest {
    /** Two kinds, of which the second has no variant, and a full plan of both. */
    private static final String NO_SHEET = "kind(0) kind(1) rule(1,0,2) plan(0,20) plan(1,20)=40 ";

    public static void main(String[] args) {
        kindsFirst();
        plansFirst();
        sheetsFirst();
        classFirst();
        fullOfEverything();
        lastCalls();
        Due.end();
    }

    private static void kindsFirst() {
        Edge.holds("kind: BAD, then FULL", "8*kind(0) kind(4)=BAD kind(-1)=BAD kind(0)=FULL");
        Edge.holds("range: UNKNOWN, then BAD",
            "kind(0) range(1,3,0,9)=UNKNOWN range(1,0,9,0)=UNKNOWN range(-1,0,0,100)=UNKNOWN range(0,3,0,9)=BAD");
        Edge.holds("rule: UNKNOWN, then BAD",
            "kind(0) rule(1,3,0)=UNKNOWN rule(1,0,4)=UNKNOWN rule(-1,1,0)=UNKNOWN rule(0,0,4)=BAD");
        Edge.holds("variant: UNKNOWN, then BAD",
            "kind(0) variant(1,0,4)=UNKNOWN variant(0,100,4)=UNKNOWN variant(0,-1,-1)=UNKNOWN variant(0,99,4)=BAD");
        Edge.holds("find: UNKNOWN, not NONE", "kind(0) find(1,100,0)=UNKNOWN find(-1,0,-1)=UNKNOWN find(0,100,0)=NONE");
        Edge.holds("slip: UNKNOWN, then BAD",
            "kind(0) slip(1,0,0)=UNKNOWN slip(0,100,6)=UNKNOWN slip(0,-1,0)=UNKNOWN slip(0,99,6)=BAD");
        Edge.holds("tells: UNKNOWN, not NONE",
            "kind(0) tells(1,0,99)=UNKNOWN tells(0,100,-9)=UNKNOWN tells(0,99,99)=NONE");
    }

    private static void plansFirst() {
        Edge.holds("plan: UNKNOWN, then BAD",
            "kind(0) plan(1,0)=UNKNOWN plan(1,41)=UNKNOWN plan(-1,0)=UNKNOWN plan(0,41)=BAD");
        Edge.holds("plan: UNKNOWN, then FULL",
            "kind(0) plan(0,40) plan(1,1)=UNKNOWN plan(1,41)=UNKNOWN plan(0,1)=FULL");
        Edge.holds("plan: BAD, then FULL",
            "kind(0) plan(0,40) plan(0,0)=BAD plan(0,41)=BAD plan(0,MAX)=BAD plan(0,40)=FULL");
    }

    private static void sheetsFirst() {
        for (String call : new String[] {"sheet", "answer"}) {
            Edge.holds(call + ": UNKNOWN, then BAD",
                "kind(0) plan(0,1) X(-1,1)=UNKNOWN X(10000,-1)=UNKNOWN X(10000,0)=BAD".replace("X", call));
            Edge.holds(call + ": UNKNOWN, then STATE",
                NO_SHEET + "X(0,40)=UNKNOWN X(0,-1)=UNKNOWN X(0,39)=STATE".replace("X", call));
            Edge.holds(call + ": UNKNOWN, then BAD and STATE",
                NO_SHEET + "X(-1,40)=UNKNOWN X(10000,-1)=UNKNOWN".replace("X", call));
            Edge.holds(call + ": BAD, then STATE",
                NO_SHEET + "X(-1,0)=BAD X(10000,39)=BAD X(9999,39)=STATE".replace("X", call));
        }
        for (String call : new String[] {"code", "apart"}) {
            Edge.holds(call + ": BAD, then STATE",
                NO_SHEET + "X(-1)=BAD X(10000)=BAD X(0)=STATE X(9999)=STATE".replace("X", call));
        }
        Edge.holds("shared: BAD, then STATE", NO_SHEET + """
            shared(-1,0)=BAD shared(0,-1)=BAD shared(10000,0)=BAD shared(0,10000)=BAD
            shared(0,0)=STATE shared(9999,9999)=STATE
            """);
    }

    private static void classFirst() {
        Edge.holds("mark: UNKNOWN, then STATE",
            NO_SHEET + "mark(1,0,0)=UNKNOWN mark(0,40,0)=UNKNOWN mark(-1,-1,0)=UNKNOWN mark(0,39,0)=STATE");
        Edge.holds("review: UNKNOWN, then BAD", """
            kind(0) plan(0,1) mark(0,0,9) review(1,0,0)=UNKNOWN review(0,61,1)=UNKNOWN
            review(0,0,-9)=UNKNOWN review(0,61,0)=BAD
            """);
        Edge.holds("review: UNKNOWN, then STATE",
            "kind(0) review(1,1,0)=UNKNOWN review(0,1,1)=UNKNOWN review(0,1,0)=STATE");
        Edge.holds("review: BAD, then STATE", "kind(0) review(0,0,0)=BAD review(0,61,0)=BAD review(0,60,0)=STATE");
        Edge.holds("review: what was MISSED can be seen without a SHEET",
            "kind(0) plan(0,1) mark(0,0,9) range(0,2,99,99)=0 review(0,5,0)=5 missed(0,0)=1");
    }

    private static void fullOfEverything() {
        Edge.holds("what is refused changes nothing: where all is full", """
            kind(0) kind(1) kind(2) kind(3) kind(0) kind(1) kind(2) kind(3)
            plan(0,5) plan(1,5) plan(2,5) plan(3,5) plan(4,5) plan(5,5) plan(6,5) plan(7,5)
            seats(8,8) base(9000) lines(99) rule(7,1,9) rule(7,2,9999) mark(77,39,77) mark(0,0,0)
            kind(0)=FULL kind(4)=BAD range(7,0,0,100)=BAD range(7,2,5,4)=BAD range(8,0,0,9)=UNKNOWN
            rule(7,0,4)=BAD rule(7,1,10)=BAD rule(7,2,10000)=BAD rule(8,0,0)=UNKNOWN plan(7,1)=FULL
            plan(7,41)=BAD plan(8,1)=UNKNOWN
            lines(100)=BAD lines(8)=BAD seats(9,8)=BAD seats(8,0)=BAD base(9001)=BAD base(-1)=BAD
            mark(78,0,0)=UNKNOWN mark(0,40,0)=UNKNOWN mark(80,0,77)=UNKNOWN
            """);
    }

    private static void lastCalls() {
        Edge.holds("at most 512 calls: the last one counts 509 wrong MARKS",
            "kind(0) plan(0,1) 509*mark(0,0,9) total(4)=509");
        Edge.holds("at most 512 calls: the last one shares 60 places by 508",
            "kind(0) plan(0,2) 508*mark(0,1,9) missed(0,NONE)=508 review(0,60,0)=60");
        Edge.holds("at most 512 calls: the last one is a MARK", "kind(0) plan(0,1) 509*mark(0,0,0)=0 mark(0,0,1)=3");
        Edge.holds("at most 512 calls: the last one of the greatest ranges",
            "kind(2) range(0,0,0,99) 509*range(0,1,0,99)=10000 variant(0,9999,2)=9801");
        Edge.holds("at most 512 calls: full and emptied again and again",
            "kind(0) " + "plan(0,40)=40 clear()=40 ".repeat(255) + "total(1)=0");
    }
}
