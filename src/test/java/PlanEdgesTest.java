/** The edges of the plan, of pages and of sheets (terms 2, promises 10 to 20). */
public final class PlanEdgesTest {
    public static void main(String[] args) {
        howManyPlaces();
        emptied();
        places();
        pageLines();
        wholeOnAPage();
        sheetNumbers();
        nextVariants();
        rounds();
        codes();
        sharing();
        apart();
        noSheet();
        emptyPlan();
        Due.end();
    }

    private static void howManyPlaces() {
        Edge.holds("THE PLAN (40 at most): at once", "kind(0) plan(0,40)=40 plan(0,1)=FULL total(1)=40");
        Edge.holds("THE PLAN (40 at most): one by one", "kind(0) 39*plan(0,1) plan(0,1)=40 plan(0,1)=FULL total(1)=40");
        Edge.holds("FULL: more than 40: the last that is taken and the first that is not", """
            kind(0) kind(1) plan(0,39)=39 plan(1,2)=FULL plan(1,40)=FULL plan(1,1)=40 plan(1,1)=FULL placed(39)=1
            """);
        Edge.holds("FULL: more than 40: 1 and 40", "kind(0) plan(0,1)=1 plan(0,40)=FULL plan(0,39)=40");
        Edge.holds("n times (1 .. 40): beyond them it is BAD", """
            kind(0) plan(0,0)=BAD plan(0,41)=BAD plan(0,-1)=BAD plan(0,MIN)=BAD plan(0,MAX)=BAD total(1)=0 plan(0,1)=1
            """);
        Edge.holds("again and again as told", """
            kind(0) kind(1) plan(0,2)=2 plan(1,1)=3 plan(0,1)=4 plan(0,1)=5
            placed(0)=0 placed(1)=0 placed(2)=1 placed(3)=0 placed(4)=0
            """);
        Edge.holds("a KIND that has no VARIANT may come too", "kind(1) rule(0,0,2) variants(0)=0 plan(0,40)=40");
    }

    private static void emptied() {
        Edge.holds("clear: how many places it had: none", "clear()=0 kind(0) clear()=0 plan(0,1) clear()=1 clear()=0");
        Edge.holds("clear: how many places it had: all 40", "kind(0) plan(0,40) clear()=40 total(1)=0 plan(0,40)=40");
        Edge.holds("clear: THE PLAN is empty, the KINDS stay as they are", """
            kind(0) range(0,0,5,5) rule(0,1,9) rule(0,2,7) plan(0,3) clear()=3 placed(0)=UNKNOWN pages()=0
            total(0)=1 variants(0)=10 rule(0,1,9)=9 rule(0,2,7)=7
            """);
        Edge.holds("clear: m and j are counted anew", """
            kind(0) kind(0) plan(0,3) plan(1,4) clear()=7 plan(1,1) plan(0,2) sheet(0,0)=0 sheet(1,0)=1 sheet(0,1)=0
            sheet(0,2)=1 sheet(1,1)=2
            """);
        Edge.holds("clear: m is counted anew, of the last of 8 KINDS too", """
            8*kind(0) plan(7,5) clear()=5 plan(7,1) sheet(1,0)=1
            """);
    }

    private static void places() {
        String[] calls = {"placed(#)", "page(#,false)", "page(#,true)", "sheet(0,#)", "answer(0,#)", "mark(0,#,99)"};
        for (String call : calls) {
            Edge.ends("UNKNOWN: there is no such place", "kind(0) plan(0,3)", call,
                "0 2", "3 40 -1 -9 MIN MAX", "UNKNOWN");
            Edge.ends("UNKNOWN: there is no such place: the last of 40", "kind(0) plan(0,40)", call,
                "39", "40", "UNKNOWN");
            Edge.ends("UNKNOWN: there is no such place any more", "kind(0) plan(0,3) clear() plan(0,1)", call,
                "0", "1 2", "UNKNOWN");
        }
    }

    private static void pageLines() {
        Edge.holds("PAGES of so many lines (9 .. 99): the ends are taken", "lines(9)=20 lines(99)=9 lines(9)=99");
        Edge.holds("PAGES of so many lines (9 .. 99): beyond them it is BAD", """
            lines(8)=BAD lines(100)=BAD lines(0)=BAD lines(-1)=BAD lines(MIN)=BAD lines(MAX)=BAD lines(20)=20
            """);
        Edge.holds("20 lines at first", """
            kind(0) plan(0,20) pages()=1 page(19,true)=19 plan(0,1) pages()=2 page(20,false)=1 page(20,true)=0
            """);
        Edge.holds("a page has 9 lines", """
            kind(0) lines(9) plan(0,9) pages()=1 page(8,true)=8 plan(0,1) pages()=2 page(9,false)=1 page(9,true)=0
            """);
        Edge.holds("a page has 99 lines: the last line, and the first of the next page", """
            kind(0) kind(0) rule(0,1,9) lines(99) plan(0,10) plan(1,9) pages()=1 page(18,true)=98
            plan(1,1) pages()=2 page(19,false)=1 page(19,true)=0
            """);
    }

    private static void wholeOnAPage() {
        Edge.holds("each whole on a page: it just fits", """
            kind(0) kind(0) rule(1,1,9) lines(10) plan(0,1) plan(1,1) page(1,false)=0 page(1,true)=1 pages()=1
            """);
        Edge.holds("on the next one, if its LINES do not fit any more: one line too few", """
            kind(0) kind(0) rule(1,1,9) lines(10) plan(0,2) plan(1,1) page(2,false)=1 page(2,true)=0 pages()=2
            """);
        Edge.holds("one behind the other: a lesser one does not go back", """
            kind(0) kind(0) rule(1,1,9) lines(10) plan(0,2) plan(1,1) plan(0,2)
            page(3,false)=1 page(3,true)=9 page(4,false)=2 page(4,true)=0 pages()=3
            """);
        Edge.holds("9 LINES on pages of 9: each has its own", """
            kind(0) rule(0,1,9) lines(9) plan(0,40) pages()=40 page(0,false)=0 page(39,false)=39 page(39,true)=0
            """);
        Edge.holds("9 LINES on pages of 17: the second does not fit", """
            kind(0) rule(0,1,9) lines(17) plan(0,2) pages()=2 page(1,false)=1 page(1,true)=0
            """);
        Edge.holds("9 LINES on pages of 18: the second just fits", """
            kind(0) rule(0,1,9) lines(18) plan(0,3) pages()=2 page(1,false)=0 page(1,true)=9 page(2,false)=1
            """);
        Edge.holds("9 LINES on pages of 99: the eleventh just fits", """
            kind(0) rule(0,1,9) lines(99) plan(0,12) pages()=2 page(10,false)=0 page(10,true)=90
            page(11,false)=1 page(11,true)=0
            """);
        Edge.holds("how many pages a SHEET takes (0: an empty PLAN)",
            "pages()=0 kind(0) pages()=0 plan(0,1) pages()=1 clear() pages()=0");
        Edge.holds("other LINES, other pages: of a PLAN that stands", """
            kind(0) plan(0,20) pages()=1 rule(0,1,2) pages()=2 lines(39) pages()=2 lines(40) pages()=1
            """);
    }

    private static void sheetNumbers() {
        String[] calls = {"sheet(#,0)", "answer(#,0)", "code(#)", "shared(#,0)", "shared(0,#)", "apart(#)"};
        for (String call : calls) {
            Edge.ends("SHEET z (0 .. 9999)", "kind(0) plan(0,3)", call, "0 9999", "-1 10000 -9 MIN MAX", "BAD");
        }
        Edge.holds("SHEET 0 and SHEET 9999", """
            kind(0) plan(0,1) sheet(0,0)=0 sheet(9999,0)=99 answer(0,0)=0 answer(9999,0)=18 code(9999)=18
            shared(9999,9999)=1
            """);
        Edge.holds("the greatest number of all: SHEET 9999, the last of 40, BEGIN 9999", """
            kind(0) range(0,0,0,99) range(0,1,0,99)=10000 rule(0,2,9999) plan(0,40) sheet(9999,39)=9998
            answer(9999,39)=197
            """);
    }

    private static void nextVariants() {
        Edge.holds("the j-th place (0, 1, ..) of a KIND, another one's between them", """
            kind(0) kind(2) plan(0,1) plan(1,1) plan(0,2) plan(1,1)
            sheet(0,0)=0 sheet(0,1)=0 sheet(0,2)=1 sheet(0,3)=2 sheet(0,4)=1
            """);
        Edge.holds("z m: m places in all, also those behind", """
            kind(0) kind(2) plan(0,1) sheet(2,0)=2 plan(1,1) sheet(2,0)=2 plan(0,2) sheet(2,0)=6
            sheet(2,3)=8 sheet(2,1)=2
            """);
        Edge.holds("its BEGIN (0 at first)", """
            kind(0) kind(2) plan(0,2) plan(1,1) sheet(0,0)=0 rule(0,2,5) sheet(0,0)=5 sheet(0,1)=6
            sheet(1,0)=7 sheet(0,2)=0
            """);
        Edge.holds("the answer there", """
            kind(1) range(0,0,9,9) plan(0,1) answer(0,0)=9 answer(9,0)=0 answer(10,0)=9
            """);
    }

    private static void rounds() {
        Edge.holds("modulo how many there are: SHEET by SHEET", """
            kind(0) range(0,0,0,0)=10 plan(0,1) sheet(9,0)=9 sheet(10,0)=0 sheet(19,0)=9 sheet(20,0)=0
            """);
        Edge.holds("modulo how many there are: within a SHEET", """
            kind(0) range(0,0,0,0)=10 plan(0,40) sheet(0,9)=9 sheet(0,10)=0 sheet(0,39)=9 sheet(1,0)=0
            """);
        Edge.holds("modulo how many there are: BEGIN", """
            kind(0) range(0,0,0,0)=10 plan(0,1) rule(0,2,9) sheet(0,0)=9 rule(0,2,10) sheet(0,0)=0
            rule(0,2,9999) sheet(0,0)=9
            sheet(1,0)=0
            """);
        Edge.holds("modulo how many there are: one alone", """
            kind(2) range(0,0,7,7) range(0,1,8,8)=1 plan(0,2) rule(0,2,9999) sheet(0,0)=0 sheet(0,1)=0
            sheet(9999,1)=0 answer(9999,1)=56
            """);
        Edge.holds("modulo how many there are now", """
            kind(0) plan(0,1) sheet(99,0)=99 range(0,0,0,0)=10 sheet(99,0)=9 range(0,1,0,6)=7 sheet(99,0)=1
            rule(0,0,3) sheet(99,0)=3
            """);
        Edge.holds("each KIND of THE PLAN is counted modulo its own", """
            kind(0) kind(0) range(0,0,0,0)=10 plan(0,1) plan(1,1) sheet(10,0)=0 sheet(10,1)=10
            sheet(99,1)=99 sheet(100,1)=0
            """);
    }

    private static void codes() {
        for (int answer : new int[] {0, 1, 96, 97, 98}) {
            Edge.holds("THE CODE: modulo 97: a sum of " + answer,
                "kind(0) range(0,0,%1$d,%1$d) range(0,1,0,0)=1 plan(0,1) code(0)=%2$d".formatted(answer, answer % 97));
        }
        Edge.holds("THE CODE: modulo 97: two rounds: 193, 194", """
            kind(0) range(0,0,96,97) range(0,1,97,97)=2 plan(0,1) code(0)=96 code(1)=0
            """);
        Edge.holds("each answer times its place and 1 together: 1, 2 and 3 times", """
            kind(0) range(0,0,1,1) range(0,1,0,0) kind(0) range(1,0,10,10) range(1,1,0,0) plan(0,1)
            code(0)=1 plan(1,1) code(0)=21
            plan(0,1) code(0)=24 plan(1,1) code(0)=64
            """);
        Edge.holds("THE CODE: the greatest sum: 40 places of 9801", """
            kind(2) range(0,0,99,99) range(0,1,99,99)=1 plan(0,40) code(0)=79 code(9999)=79
            """);
    }

    private static void sharing() {
        Edge.holds("SHEETS z and z + 1 share none of a KIND with 2 m", """
            kind(0) range(0,0,0,0)=10 plan(0,5) shared(0,1)=0 shared(1,0)=0 shared(1,2)=0
            shared(9998,9999)=0 shared(0,2)=5
            """);
        Edge.holds("SHEETS z and z + 1 share one of a KIND with 2 m less 1", """
            kind(0) range(0,0,0,0) range(0,1,0,8)=9 plan(0,5) shared(0,1)=1 shared(1,0)=1 shared(9998,9999)=1
            """);
        Edge.holds("shared: the same place: a SHEET with itself",
            "kind(0) plan(0,40) shared(0,0)=40 shared(9999,9999)=40");
        Edge.holds("shared: or another one of that KIND", """
            kind(0) range(0,0,0,0)=10 plan(0,4) shared(0,2)=2 shared(2,0)=2 shared(0,3)=2 shared(0,1)=0 shared(0,5)=4
            """);
        Edge.holds("shared: not what another KIND has", """
            kind(0) kind(0) rule(1,2,1) plan(0,1) plan(1,1) sheet(0,1)=1 sheet(1,0)=1 shared(0,1)=0 shared(1,0)=0
            """);
        Edge.holds("each place of z counted once: more places than VARIANTS", """
            kind(0) range(0,0,0,0) range(0,1,0,4)=5 plan(0,7) shared(0,1)=7 shared(0,0)=7
            """);
        Edge.holds("each place of z counted once: one VARIANT", """
            kind(0) range(0,0,0,0) range(0,1,0,0)=1 plan(0,40) shared(0,9999)=40
            """);
        Edge.holds("shared: of all 8 KINDS together", """
            8*kind(0) plan(0,1) plan(7,2)
            shared(0,50)=2 shared(0,100)=3 shared(0,1)=0
            """);
    }

    private static void apart() {
        Edge.holds("apart: behind z (to 9999)",
            "kind(0) plan(0,1) apart(0)=1 apart(9997)=9998 apart(9998)=9999 apart(9999)=NONE");
        Edge.holds("apart: 2 m are enough", "kind(0) range(0,0,0,0)=10 plan(0,5) apart(0)=1 apart(9998)=9999");
        Edge.holds("apart: 2 m less 1 are not: NONE",
            "kind(0) range(0,0,0,0) range(0,1,0,8)=9 plan(0,5) apart(0)=NONE apart(9998)=NONE");
        Edge.holds("apart: shares nothing of any KIND", """
            kind(0) kind(0) range(1,0,0,0) range(1,1,0,1)=2 plan(0,1) plan(1,1) apart(0)=1 plan(1,1) apart(0)=NONE
            """);
        Edge.holds("apart: a KIND that has no place does not count", """
            kind(0) kind(0) range(1,0,0,0) range(1,1,0,0)=1 plan(0,40) apart(0)=1 plan(1,1)=FULL apart(0)=1
            """);
        Edge.holds("apart: of 8 KINDS, the first and the last", """
            8*kind(0) plan(0,1) plan(7,2) apart(0)=1 range(7,0,0,0) range(7,1,0,3)=4 apart(0)=1
            range(7,1,0,2)=3 apart(0)=NONE
            range(7,1,0,9)=10 apart(0)=1 range(0,0,0,0) range(0,1,0,0)=1 apart(0)=NONE
            """);
        Edge.holds("apart: one VARIANT is shared by all",
            "kind(0) range(0,0,0,0) range(0,1,0,0)=1 plan(0,1) apart(0)=NONE");
        Edge.holds("apart: two VARIANTS, one place",
            "kind(0) range(0,0,0,0) range(0,1,0,1)=2 plan(0,1) apart(0)=1 apart(1)=2");
    }

    private static void noSheet() {
        String[] calls = {"sheet(0,1)", "answer(0,1)", "code(0)", "shared(0,0)", "apart(0)", "apart(9999)",
            "mark(0,1,0)"};
        for (String call : calls) {
            String none = call + "=STATE ";
            Edge.holds("a KIND of THE PLAN has none, there is no SHEET: at the first place: " + call,
                "kind(0) kind(1) rule(1,0,2) plan(1,1) plan(0,2) " + none);
            Edge.holds("a KIND of THE PLAN has none, there is no SHEET: at the last place: " + call,
                "kind(0) kind(1) rule(1,0,2) plan(0,39) plan(1,1) " + none);
            Edge.holds("a KIND of THE PLAN has none any more, then some again: " + call,
                "kind(0) plan(0,2) " + call + " range(0,2,19,19)=0 " + none + "range(0,2,18,18)=1 " + call);
            Edge.holds("a KIND that has none, but is not of THE PLAN: " + call,
                "kind(0) kind(1) rule(1,0,2) variants(1)=0 plan(0,2) " + call);
            Edge.holds("a KIND that has none, and is not of THE PLAN any more: " + call,
                "kind(0) kind(1) rule(1,0,2) plan(1,1) plan(0,1) " + none + "clear() plan(0,2) " + call);
        }
        Edge.holds("there is no SHEET: what needs none is answered", """
            kind(1) rule(0,0,2) plan(0,21) placed(20)=0 pages()=2 page(20,true)=0 seats(2,2) base(7)
            seat(11)=10 unlike()=4
            missed(0,0)=0 all(0)=0 total(1)=21
            """);
    }

    private static void emptyPlan() {
        Edge.holds("an empty PLAN: no place", """
            placed(0)=UNKNOWN page(0,false)=UNKNOWN page(0,true)=UNKNOWN sheet(0,0)=UNKNOWN
            answer(0,0)=UNKNOWN mark(0,0,0)=UNKNOWN
            """);
        Edge.holds("an empty PLAN: THE CODE is a sum of nothing", "code(0)=0 code(9999)=0 kind(0) code(5)=0");
        Edge.holds("an empty PLAN: nothing is shared", "shared(0,0)=0 shared(0,9999)=0");
        Edge.holds("an empty PLAN: the next SHEET shares nothing", "apart(0)=1 apart(9998)=9999 apart(9999)=NONE");
        Edge.holds("an empty PLAN: a KIND that has none is not of it",
            "kind(1) rule(0,0,2) code(0)=0 shared(0,0)=0 apart(0)=1");
    }
}
