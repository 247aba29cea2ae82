/** The edges of seats, marks and reviews (terms 3, promises 1 and 21 to 29). */
public final class SeatEdgesTest {
    /** Eight kinds of one variant each, 0 plus 0, at the places 0 to 7. */
    private static final String EIGHT = kinds(8);

    public static void main(String[] args) {
        newObject();
        rowsAndColumns();
        seatNumbers();
        neighbours();
        bases();
        unlikeSheets();
        marks();
        marksOfSheets();
        missedByAChild();
        missedByAll();
        forgotten();
        reviewSizes();
        reviewShares();
        reviewRests();
        reviewOfNothing();
        totals();
        Due.end();
    }

    private static String kinds(int n) {
        StringBuilder rows = new StringBuilder();
        for (int k = 0; k < n; k++) {
            rows.append("kind(0) range(%1$d,0,0,0) range(%1$d,1,0,0)=1 plan(%1$d,1) ".formatted(k));
        }
        return rows.toString();
    }

    private static void newObject() {
        Edge.holds("a new object: no KINDS", "total(0)=0 variants(0)=UNKNOWN kind(0)=0");
        Edge.holds("a new object: an empty PLAN", "total(1)=0 pages()=0 placed(0)=UNKNOWN clear()=0");
        Edge.holds("a new object: one SEAT",
            "total(2)=1 seat(0)=0 seat(1)=UNKNOWN seat(10)=UNKNOWN unlike()=1 seats(1,1)=1");
        Edge.holds("a new object: no MARKS, nothing MISSED", "total(3)=0 total(4)=0 missed(0,NONE)=0");
        Edge.holds("a new object: 20 lines, BASE 0", "lines(20)=20 base(0)=0");
    }

    private static void rowsAndColumns() {
        Edge.holds("SEATS in rows and columns (1 .. 8 each; one at first): the ends are taken", """
            seats(1,8)=1 seat(7)=1 seat(10)=UNKNOWN seats(8,1)=8 seat(70)=1 seat(1)=UNKNOWN seats(8,8)=8 seat(77)=3
            seats(1,1)=64 total(2)=1 seat(0)=0
            """);
        Edge.holds("rows (1 .. 8): beyond them it is BAD", """
            seats(0,1)=BAD seats(9,1)=BAD seats(-1,1)=BAD seats(MIN,1)=BAD seats(MAX,1)=BAD total(2)=1 seats(2,3)=1
            seats(0,8)=BAD seats(9,8)=BAD total(2)=6
            """);
        Edge.holds("columns (1 .. 8): beyond them it is BAD", """
            seats(1,0)=BAD seats(1,9)=BAD seats(1,-1)=BAD seats(1,MIN)=BAD seats(1,MAX)=BAD total(2)=1 seats(2,3)=1
            seats(8,0)=BAD seats(8,9)=BAD total(2)=6
            """);
        Edge.holds("how many SEATS there were",
            "seats(3,4)=1 seats(3,4)=12 seats(8,8)=12 seats(2,1)=64 seats(1,1)=2 seats(1,1)=1");
    }

    private static void seatNumbers() {
        for (String call : new String[] {"seat(#)", "mark(#,0,5)", "missed(#,0)", "missed(#,NONE)", "review(#,1,0)"}) {
            Edge.ends("a SEAT is 10 times the row, and the column",
                "kind(0) plan(0,1) seats(2,3) mark(0,0,99) mark(2,0,99) mark(10,0,99) mark(12,0,99)", call,
                "0 2 10 12", "3 9 13 20 100 -1 -9 -10 MIN MAX", "UNKNOWN");
            Edge.ends("a SEAT of 8 rows and 8 columns",
                "kind(0) plan(0,1) seats(8,8) mark(7,0,99) mark(70,0,99) mark(77,0,99)", call,
                "7 70 77", "8 9 68 78 79 80 87 110", "UNKNOWN");
        }
        Edge.holds("there is no such SEAT any more",
            "seats(8,8) seat(77)=3 seats(7,8) seat(67)=1 seat(77)=UNKNOWN seats(7,7) seat(67)=UNKNOWN");
    }

    private static void neighbours() {
        Edge.holds("the least number that none of its neighbours has: one row", """
            seats(1,8) seat(0)=0 seat(1)=1 seat(2)=0 seat(3)=1 seat(4)=0 seat(5)=1 seat(6)=0 seat(7)=1
            """);
        Edge.holds("the least number that none of its neighbours has: one column", """
            seats(8,1) seat(0)=0 seat(10)=1 seat(20)=0 seat(30)=1 seat(40)=0 seat(50)=1 seat(60)=0 seat(70)=1
            """);
        Edge.holds("of eight around: the corners and the sides of two rows, two columns",
            "seats(2,2) seat(0)=0 seat(1)=1 seat(10)=2 seat(11)=3");
        Edge.holds("of eight around: two columns", """
            seats(4,2) seat(0)=0 seat(1)=1 seat(10)=2 seat(11)=3 seat(20)=0 seat(21)=1 seat(30)=2 seat(31)=3
            """);
        Edge.holds("of eight around: the last column, even or odd", """
            seats(3,3) seat(2)=0 seat(12)=2 seat(22)=0 seats(3,4) seat(3)=1 seat(13)=3 seat(23)=1
            """);
        Edge.holds("of eight around: the last row of 8, the last column of 8", """
            seats(8,8) seat(7)=1 seat(17)=3 seat(66)=0 seat(67)=1 seat(70)=2 seat(71)=3 seat(76)=2 seat(77)=3
            """);
    }

    private static void bases() {
        Edge.holds("a BASE (0 .. 9000; 0 at first): the ends are taken",
            "base(9000)=0 seat(0)=9000 base(0)=9000 seat(0)=0 base(1)=0");
        Edge.holds("a BASE (0 .. 9000): beyond them it is BAD", """
            base(-1)=BAD base(9001)=BAD base(-9)=BAD base(9999)=BAD base(MIN)=BAD base(MAX)=BAD seat(0)=0 base(0)=0
            """);
        Edge.holds("its SHEET is that, and a BASE: the greatest",
            "seats(2,2) base(9000) seat(0)=9000 seat(1)=9001 seat(10)=9002 seat(11)=9003");
        Edge.holds("other seats, the same BASE", "base(9000)=0 seats(8,8)=1 seat(77)=9003 base(0)=9000");
    }

    private static void unlikeSheets() {
        Edge.holds("how many unlike SHEETS there are: one SEAT", "unlike()=1 seats(1,1) unlike()=1");
        Edge.holds("how many unlike SHEETS there are: one row", "seats(1,2) unlike()=2 seats(1,8) unlike()=2");
        Edge.holds("how many unlike SHEETS there are: one column", "seats(2,1) unlike()=2 seats(8,1) unlike()=2");
        Edge.holds("how many unlike SHEETS there are: rows and columns",
            "seats(2,2) unlike()=4 seats(2,8) unlike()=4 seats(8,8) unlike()=4");
        Edge.holds("how many unlike SHEETS there are: with any BASE", "seats(2,2) base(9000) unlike()=4");
    }

    private static void marks() {
        Edge.holds("a MARK: 0 RIGHT: nothing is MISSED",
            EIGHT + "mark(0,0,0)=0 total(3)=1 total(4)=0 missed(0,NONE)=0 all(0)=0");
        Edge.holds("a MARK: else it MISSED the KIND there, once more: the SLIP that it tells",
            EIGHT + "mark(0,2,1)=3 missed(0,2)=1 mark(0,2,1)=3 missed(0,2)=2 total(3)=0 total(4)=2 missed(0,NONE)=2");
        Edge.holds("a MARK: else it MISSED the KIND there, once more: NONE: none", EIGHT + """
            mark(0,7,2)=NONE mark(0,7,-1)=NONE mark(0,7,-9)=NONE mark(0,7,MIN)=NONE mark(0,7,MAX)=NONE
            missed(0,7)=5 total(4)=5
            """);
        Edge.holds("a MARK: each SLIP", """
            kind(0) range(0,0,38,38) range(0,1,27,27)=1 plan(0,1)
            mark(0,0,11)=1 mark(0,0,55)=2 mark(0,0,66)=3 mark(0,0,64)=4 mark(0,0,56)=5 missed(0,0)=5
            mark(0,0,65)=0 missed(0,0)=5
            """);
        Edge.holds("a MARK is made where there is a KIND: the first and the last place", """
            kind(0) kind(2) plan(0,39) plan(1,1) mark(0,39,77)=NONE missed(0,1)=1 missed(0,0)=0
            mark(0,0,77)=NONE missed(0,0)=1
            """);
        Edge.holds("a refused MARK is none", """
            kind(0) kind(1) plan(0,1) mark(1,0,0)=UNKNOWN mark(0,1,0)=UNKNOWN mark(0,-1,9)=UNKNOWN rule(1,0,2) plan(1,1)
            mark(0,0,0)=STATE mark(0,0,9)=STATE total(3)=0 total(4)=0 missed(0,NONE)=0 all(0)=0
            """);
    }

    private static void marksOfSheets() {
        Edge.holds("a child at a SEAT has its SHEET", """
            kind(0) range(0,0,20,20) range(0,1,0,3)=4 plan(0,1) seats(2,2)
            mark(0,0,20)=0 mark(1,0,21)=0 mark(10,0,22)=0 mark(11,0,23)=0 mark(11,0,20)=NONE total(3)=4
            """);
        Edge.holds("a child at a SEAT has its SHEET: with the greatest BASE, modulo", """
            kind(0) range(0,0,20,20) range(0,1,0,6)=7 plan(0,1) seats(2,2) base(9000) sheet(9003,0)=1
            mark(11,0,21)=0 mark(0,0,25)=0
            """);
    }

    private static void missedByAChild() {
        Edge.holds("how often a child MISSED a KIND: the first and the last of 8",
            EIGHT + "mark(0,0,9) 2*mark(0,7,9) missed(0,0)=1 missed(0,1)=0 missed(0,7)=2");
        Edge.holds("how often a child MISSED a KIND (NONE: any)",
            EIGHT + "missed(0,NONE)=0 mark(0,0,9) missed(0,NONE)=1 2*mark(0,7,9) missed(0,NONE)=3");
        Edge.holds("NONE: any: also if there are no KINDS",
            "missed(0,NONE)=0 missed(0,0)=UNKNOWN missed(1,NONE)=UNKNOWN");
        Edge.holds("NONE: any: no number beside it",
            "kind(0) missed(0,-8)=UNKNOWN missed(0,-10)=UNKNOWN missed(0,-9)=0");
        Edge.holds("a child MISSED, its neighbours did not", """
            kind(0) plan(0,1) seats(8,8) mark(44,0,99) missed(44,0)=1 missed(43,0)=0 missed(45,0)=0
            missed(34,0)=0 missed(54,0)=0
            mark(77,0,99) missed(77,0)=1 missed(76,0)=0 missed(67,0)=0 mark(0,0,99) missed(0,0)=1
            missed(1,0)=0 missed(10,0)=0
            mark(7,0,99) missed(7,0)=1 missed(10,0)=0 mark(70,0,99) missed(70,0)=1 missed(67,0)=0
            """);
        Edge.holds("what is MISSED stays, if the PLAN, the KIND or the BASE change", """
            kind(0) plan(0,1) mark(0,0,99) clear() missed(0,0)=1 rule(0,0,2) range(0,0,99,99) base(5)
            kind(1) missed(0,0)=1 missed(0,1)=0
            """);
    }

    private static void missedByAll() {
        Edge.holds("how often all children together MISSED a KIND: nobody", "kind(0) seats(8,8) all(0)=0");
        Edge.holds("how often all children together MISSED a KIND: at the first and the last SEAT",
            EIGHT + "seats(8,8) mark(0,0,9) mark(77,0,9) 2*mark(7,7,9) mark(70,7,9) all(0)=2 all(1)=0 all(7)=3");
        Edge.holds("all: of a KIND, not of NONE", "kind(0) plan(0,1) mark(0,0,99) all(NONE)=UNKNOWN all(0)=1");
    }

    private static void forgotten() {
        Edge.holds("seats: nobody MISSED anything", EIGHT + """
            seats(8,8) mark(0,0,9) mark(77,7,9) seats(8,7) missed(0,NONE)=0 all(0)=0 all(7)=0 seats(8,8)
            missed(77,NONE)=0 all(7)=0
            """);
        Edge.holds("seats: nobody MISSED anything: the same rows and columns too",
            EIGHT + "mark(0,0,9) seats(1,1)=1 missed(0,0)=0 all(0)=0 review(0,1,0)=STATE");
        Edge.holds("seats that are refused: what was MISSED stays",
            EIGHT + "mark(0,0,9) seats(0,1)=BAD seats(1,9)=BAD missed(0,0)=1 all(0)=1 review(0,1,0)=1");
        Edge.holds("seats: the MARKS were made all the same",
            EIGHT + "mark(0,0,0) mark(0,0,9) seats(2,2) total(3)=1 total(4)=1");
    }

    private static void reviewSizes() {
        Edge.holds("a REVIEW of n places (1 .. 60): the ends are taken",
            EIGHT + "mark(0,0,9) review(0,1,0)=1 review(0,60,0)=60 review(0,60,1)=0");
        Edge.holds("a REVIEW of n places (1 .. 60): beyond them it is BAD", EIGHT + """
            mark(0,0,9) review(0,0,0)=BAD review(0,61,0)=BAD review(0,-1,0)=BAD review(0,-9,0)=BAD
            review(0,MIN,0)=BAD review(0,MAX,0)=BAD
            """);
        Edge.holds("a REVIEW of a KIND, not of NONE", EIGHT + "mark(0,0,9) review(0,1,NONE)=UNKNOWN");
    }

    private static void reviewShares() {
        Edge.holds("of KINDS that it MISSED: another one gets none",
            EIGHT + "mark(0,3,9) review(0,60,2)=0 review(0,60,3)=60 review(0,60,4)=0");
        Edge.holds("of KINDS that it MISSED: another one gets none of those that are over", EIGHT + """
            mark(0,3,9) mark(0,5,9) review(0,1,0)=0 review(0,1,3)=1 review(0,1,4)=0 review(0,1,5)=0
            review(0,1,7)=0
            """);
        Edge.holds("n times how often by how often all: nothing is over",
            EIGHT + "mark(0,0,9) 2*mark(0,1,9) review(0,3,0)=1 review(0,3,1)=2 review(0,60,0)=20 review(0,60,1)=40");
        Edge.holds("cut: less than one", EIGHT + """
            mark(0,0,9) 59*mark(0,1,9) review(0,1,0)=0 review(0,1,1)=1 review(0,29,0)=0 review(0,29,1)=29
            review(0,31,0)=1 review(0,31,1)=30 review(0,60,0)=1 review(0,60,1)=59
            """);
        Edge.holds("a REVIEW for it, not for another one", EIGHT + """
            seats(1,2) mark(0,0,9) mark(1,1,9) review(0,10,0)=10 review(0,10,1)=0 review(1,10,0)=0
            review(1,10,1)=10
            """);
    }

    private static void reviewRests() {
        Edge.holds("those that are over go to those with the greatest rest",
            EIGHT + "mark(0,0,9) 2*mark(0,1,9) review(0,1,0)=0 review(0,1,1)=1 review(0,2,0)=1 review(0,2,1)=1");
        Edge.holds("the greatest rest, not the greatest share",
            EIGHT + "5*mark(0,0,9) 3*mark(0,1,9) mark(0,2,9) review(0,4,0)=2 review(0,4,1)=1 review(0,4,2)=1");
        Edge.holds("of like ones the lesser KIND: two",
            EIGHT + "mark(0,2,9) mark(0,6,9) review(0,1,2)=1 review(0,1,6)=0 review(0,59,2)=30 review(0,59,6)=29");
        Edge.holds("of like ones the lesser KIND: rests of one half",
            EIGHT + "mark(0,0,9) 59*mark(0,1,9) review(0,30,0)=1 review(0,30,1)=29");
        Edge.holds("of like ones the lesser KIND: behind one with a greater rest", EIGHT
            + "2*mark(0,0,9) 2*mark(0,1,9) mark(0,7,9) review(0,4,0)=2 review(0,4,1)=1 review(0,4,7)=1");
        StringBuilder eachOnce = new StringBuilder(EIGHT);
        for (int k = 0; k < 8; k++) {
            eachOnce.append("mark(0,%d,9) ".formatted(k));
        }
        Edge.holds("one each: one over of 8",
            eachOnce + "review(0,1,0)=1 review(0,1,1)=0 review(0,1,7)=0 review(0,57,0)=8 review(0,57,1)=7");
        Edge.holds("one each: seven over of 8", eachOnce + """
            review(0,7,0)=1 review(0,7,6)=1 review(0,7,7)=0 review(0,15,0)=2 review(0,15,6)=2
            review(0,15,7)=1
            """);
        Edge.holds("one each: none over of 8",
            eachOnce + "review(0,8,0)=1 review(0,8,7)=1 review(0,56,0)=7 review(0,56,7)=7");
    }

    private static void reviewOfNothing() {
        Edge.holds("STATE: it MISSED nothing: no MARK", EIGHT + "review(0,1,0)=STATE review(0,60,7)=STATE");
        Edge.holds("STATE: it MISSED nothing: all RIGHT",
            EIGHT + "mark(0,0,0)=0 review(0,1,0)=STATE mark(0,0,1) review(0,1,0)=1");
        Edge.holds("STATE: it MISSED nothing, another child did",
            EIGHT + "seats(1,2) mark(1,0,9) review(0,1,0)=STATE review(1,1,0)=1");
    }

    private static void totals() {
        Edge.holds("total: 0 KINDS: none and 8", "total(0)=0 8*kind(0) total(0)=8");
        Edge.holds("total: 1 places of THE PLAN: none and 40",
            "total(1)=0 kind(0) plan(0,40) total(1)=40 clear() total(1)=0");
        Edge.holds("total: 2 SEATS: one and 64", "total(2)=1 seats(8,8) total(2)=64 seats(2,3) total(2)=6");
        Edge.holds("total: 3 MARKS that were RIGHT, 4 that were not",
            EIGHT + "mark(0,0,0) total(3)=1 total(4)=0 2*mark(0,0,1) total(3)=1 total(4)=2");
        Edge.holds("total: beyond 0 .. 4 it is BAD",
            "total(0)=0 total(4)=0 total(-1)=BAD total(5)=BAD total(-9)=BAD total(MIN)=BAD total(MAX)=BAD");
    }
}
