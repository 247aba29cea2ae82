/** The edges of kinds (terms 1, promises 2 to 7), a run of calls for each sentence. */
public final class KindEdgesTest {
    public static void main(String[] args) {
        howManyKinds();
        newKinds();
        numbers();
        turnedNumbers();
        rules();
        toldAnswers();
        answersFromTo();
        numbering();
        carries();
        carryLaws();
        slipLaw();
        unknownKinds();
        unknownVariants();
        Due.end();
    }

    private static void howManyKinds() {
        Edge.holds("KINDS (8 at most): the eighth is taken, the ninth is FULL", """
            7*kind(0) total(0)=7 kind(3)=7 variants(7)=32
            kind(0)=FULL kind(3)=FULL total(0)=8 variants(8)=UNKNOWN
            """);
        Edge.holds("an OPERATION (0 plus .. 3 by): first and last", """
            kind(0)=0 variant(0,99,2)=18 kind(3)=1 variant(1,31,2)=1
            """);
        Edge.holds("an OPERATION (0 plus .. 3 by): beyond them it is BAD", """
            kind(-1)=BAD kind(4)=BAD kind(-9)=BAD kind(MIN)=BAD kind(MAX)=BAD total(0)=0 kind(0)=0
            """);
        Edge.holds("its number: 0, 1, ..; a refused one takes none", """
            kind(0)=0 kind(4)=BAD kind(1)=1 kind(-1)=BAD kind(2)=2 total(0)=3
            """);
    }

    private static void newKinds() {
        Edge.holds("a KIND, with a, b 0 .. 9", """
            kind(0) variants(0)=100 find(0,0,0)=0 find(0,9,9)=99
            find(0,10,0)=NONE find(0,0,10)=NONE find(0,-1,0)=NONE find(0,0,-1)=NONE
            """);
        Edge.holds("a KIND, with answers 0 .. 9999: from the least to the greatest that there are", """
            kind(2) range(0,0,0,99) range(0,1,0,99)=10000 find(0,0,0)=0 find(0,99,99)=9999
            """);
        Edge.holds("a KIND, with LAW 0, one LINE, BEGIN 0 at first", """
            7*kind(0) kind(1) rule(7,0,0)=0 rule(7,1,1)=1 rule(7,2,0)=0
            """);
        Edge.holds("each KIND has its own numbers and laws", """
            kind(0) kind(0) range(0,0,99,99) rule(0,0,2) rule(0,1,9) rule(0,2,9999)
            variants(1)=100 rule(1,0,0)=0 rule(1,1,1)=1 rule(1,2,0)=0
            """);
    }

    private static void numbers() {
        Edge.holds("a from .. to (0 .. 99): the ends are taken", """
            kind(0) range(0,0,0,0)=10 variant(0,0,0)=0 range(0,0,99,99)=10 variant(0,0,0)=99
            range(0,0,0,99)=1000 variant(0,0,0)=0 variant(0,999,0)=99
            """);
        Edge.holds("a from .. to (0 .. 99): beyond them it is BAD", """
            kind(0) range(0,0,-1,9)=BAD range(0,0,0,100)=BAD range(0,0,100,100)=BAD range(0,0,-1,-1)=BAD
            range(0,0,-1,100)=BAD range(0,0,MIN,9)=BAD range(0,0,0,MAX)=BAD range(0,0,MIN,MAX)=BAD variants(0)=100
            """);
        Edge.holds("b from .. to (0 .. 99): the ends are taken", """
            kind(0) range(0,1,0,0)=10 variant(0,0,1)=0 range(0,1,99,99)=10 variant(0,0,1)=99
            range(0,1,0,99)=1000 variant(0,0,1)=0 variant(0,99,1)=99
            """);
        Edge.holds("b from .. to (0 .. 99): beyond them it is BAD", """
            kind(0) range(0,1,-1,9)=BAD range(0,1,0,100)=BAD range(0,1,100,100)=BAD range(0,1,-1,-1)=BAD
            range(0,1,-1,100)=BAD range(0,1,MIN,9)=BAD range(0,1,0,MAX)=BAD range(0,1,MIN,MAX)=BAD variants(0)=100
            """);
        Edge.holds("answers from .. to (0 .. 9999): the ends are taken", """
            kind(2) range(0,2,0,0)=19 range(0,2,9999,9999)=0 range(0,2,100,9999)=0 range(0,2,0,9999)=100
            """);
        Edge.holds("answers from .. to (0 .. 9999): beyond them it is BAD", """
            kind(2) range(0,2,-1,5)=BAD range(0,2,0,10000)=BAD range(0,2,10000,10000)=BAD range(0,2,-1,-1)=BAD
            range(0,2,-9,-9)=BAD range(0,2,MIN,5)=BAD range(0,2,0,MAX)=BAD range(0,2,MIN,MAX)=BAD variants(0)=100
            """);
        Edge.holds("a KIND's numbers: a (what = 0), b (1), answers (2): beyond them it is BAD", """
            kind(0) range(0,-1,0,9)=BAD range(0,3,0,9)=BAD range(0,MIN,0,9)=BAD range(0,MAX,0,9)=BAD variants(0)=100
            range(0,0,3,9)=70 range(0,1,3,9)=49 range(0,2,6,6)=1
            """);
    }

    private static void turnedNumbers() {
        Edge.holds("a from .. to: one number is taken, a lesser to is BAD", """
            kind(0) range(0,0,5,5)=10 range(0,0,5,4)=BAD range(0,0,99,0)=BAD range(0,0,MAX,MIN)=BAD variant(0,0,0)=5
            """);
        Edge.holds("b from .. to: one number is taken, a lesser to is BAD", """
            kind(0) range(0,1,5,5)=10 range(0,1,5,4)=BAD range(0,1,99,0)=BAD range(0,1,MAX,MIN)=BAD variant(0,0,1)=5
            """);
        Edge.holds("answers from .. to: one number is taken, a lesser to is BAD", """
            kind(0) range(0,2,5,5)=6 range(0,2,5,4)=BAD range(0,2,9999,0)=BAD range(0,2,MAX,MIN)=BAD variants(0)=6
            """);
    }

    private static void rules() {
        Edge.holds("a LAW (0 any .. 3): the ends are taken, beyond them it is BAD", """
            kind(0) rule(0,0,3)=0 rule(0,0,4)=BAD rule(0,0,-1)=BAD rule(0,0,MAX)=BAD variants(0)=90
            rule(0,0,0)=3 rule(0,0,-1)=BAD rule(0,0,MIN)=BAD variants(0)=100 rule(0,0,1)=0
            """);
        Edge.holds("LINES (1 .. 9): the ends are taken, beyond them it is BAD", """
            kind(0) rule(0,1,9)=1 rule(0,1,10)=BAD rule(0,1,MAX)=BAD rule(0,1,1)=9
            rule(0,1,0)=BAD rule(0,1,-1)=BAD rule(0,1,MIN)=BAD rule(0,1,2)=1
            """);
        Edge.holds("BEGIN (0 .. 9999): the ends are taken, beyond them it is BAD", """
            kind(0) rule(0,2,9999)=0 rule(0,2,10000)=BAD rule(0,2,MAX)=BAD rule(0,2,0)=9999
            rule(0,2,-1)=BAD rule(0,2,MIN)=BAD rule(0,2,1)=0
            """);
        Edge.holds("a KIND's LAW (what = 0), LINES (1), BEGIN (2): beyond them it is BAD", """
            kind(0) rule(0,-1,1)=BAD rule(0,3,1)=BAD rule(0,MIN,1)=BAD rule(0,MAX,1)=BAD
            rule(0,0,2)=0 rule(0,1,3)=1 rule(0,2,4)=0 rule(0,0,0)=2 rule(0,1,1)=3 rule(0,2,0)=4
            """);
    }

    private static void toldAnswers() {
        Edge.holds("minus: a is b at least", """
            kind(1) find(0,0,0)=0 find(0,0,1)=NONE find(0,5,5)=20 find(0,5,6)=NONE find(0,9,9)=54 variants(0)=55
            range(0,0,0,99) range(0,1,0,99)=5050 find(0,98,99)=NONE find(0,99,99)=5049
            """);
        Edge.holds("by: b is not 0", """
            kind(3) find(0,0,0)=NONE find(0,5,0)=NONE find(0,0,1)=0 find(0,5,1)=17 range(0,1,0,0)=0 range(0,1,0,1)=10
            """);
        Edge.holds("by: b goes into a", """
            kind(3) find(0,6,3)=21 find(0,6,4)=NONE find(0,6,5)=NONE find(0,6,6)=22 find(0,6,7)=NONE
            find(0,0,9)=8 find(0,1,1)=9 find(0,1,2)=NONE
            range(0,0,99,99) range(0,1,33,99)=2 find(0,99,33)=0 find(0,99,98)=NONE find(0,99,99)=1
            """);
        Edge.holds("plus, times: every pair has an answer", """
            kind(0) kind(2) range(0,0,0,99) range(0,1,0,99)=10000 range(1,0,0,99) range(1,1,0,99)=10000
            """);
    }

    private static void answersFromTo() {
        Edge.holds("the answer lies from .. to: plus", """
            kind(0) range(0,2,5,7)=21 find(0,0,4)=NONE find(0,0,5)=0 find(0,0,7)=2 find(0,0,8)=NONE
            range(0,2,18,18)=1 range(0,2,19,19)=0
            """);
        Edge.holds("the answer lies from .. to: minus", """
            kind(1) range(0,2,1,2)=17 find(0,3,3)=NONE find(0,3,2)=4 find(0,3,1)=3 find(0,3,0)=NONE
            """);
        Edge.holds("the answer lies from .. to: times, up to 99 times 99", """
            kind(2) range(0,0,98,99) range(0,1,98,99)=4 range(0,2,9801,9801)=1 range(0,2,9802,9999)=0
            range(0,2,0,9800)=3 range(0,2,0,9604)=1 range(0,2,0,9603)=0
            """);
        Edge.holds("the answer lies from .. to: by, 0 too", """
            kind(3) range(0,2,0,0)=9 find(0,0,9)=8 find(0,9,9)=NONE range(0,2,1,1)=9 find(0,9,9)=8 find(0,0,9)=NONE
            """);
        Edge.holds("how many VARIANTS it has then: none too", """
            kind(0) range(0,2,19,9999)=0 variants(0)=0 variant(0,0,0)=UNKNOWN find(0,9,9)=NONE range(0,2,0,0)=1
            """);
    }

    private static void numbering() {
        Edge.holds("VARIANTS are numbered by a, then b: the last of one a, the first of the next", """
            kind(0) variant(0,0,0)=0 variant(0,0,1)=0 variant(0,9,0)=0 variant(0,9,1)=9 variant(0,10,0)=1
            variant(0,10,1)=0
            variant(0,99,0)=9 variant(0,99,1)=9 find(0,0,9)=9 find(0,1,0)=10
            """);
        Edge.holds("VARIANTS are numbered by a, then b: an a, or a b, that has none is left out", """
            kind(3) range(0,1,2,9) variants(0)=22 find(0,0,9)=7 find(0,2,2)=8 variant(0,7,0)=0
            variant(0,8,0)=2 variant(0,8,1)=2
            variant(0,12,0)=5 variant(0,13,1)=2 variant(0,14,1)=3 variant(0,15,1)=6 variant(0,21,0)=9 variant(0,21,1)=9
            """);
        Edge.holds("VARIANTS of the greatest KIND: the last is the 10000th", """
            kind(0) range(0,0,0,99) range(0,1,0,99)=10000 variant(0,9999,0)=99 variant(0,9999,1)=99
            variant(0,9999,2)=198
            variant(0,10000,0)=UNKNOWN find(0,99,99)=9999 variant(0,9900,0)=99 variant(0,9899,0)=98 variant(0,9899,1)=99
            """);
        Edge.holds("find: the number of the VARIANT of a and b; NONE", """
            kind(0) range(0,0,3,6) range(0,1,2,4) find(0,3,2)=0 find(0,6,4)=11
            find(0,2,2)=NONE find(0,7,4)=NONE find(0,3,1)=NONE find(0,6,5)=NONE
            find(0,MIN,2)=NONE find(0,MAX,2)=NONE find(0,3,MIN)=NONE find(0,3,MAX)=NONE find(0,-9,-9)=NONE
            find(0,100,100)=NONE
            """);
        Edge.holds("VARIANT i of a KIND: a (what = 0) .. whether there is a CARRY (3): beyond them it is BAD", """
            kind(0) variant(0,19,0)=1 variant(0,19,1)=9 variant(0,19,2)=10 variant(0,19,3)=1
            variant(0,19,-1)=BAD variant(0,19,4)=BAD variant(0,19,MIN)=BAD variant(0,19,MAX)=BAD
            """);
    }

    private static void carries() {
        Edge.holds("a CARRY: plus: the ones of a and b together are 10 at least", """
            kind(0) range(0,0,0,99) range(0,1,0,99) variant(0,108,3)=0 variant(0,109,3)=1
            find(0,50,50)=5050 variant(0,5050,3)=0 find(0,99,0)=9900 variant(0,9900,3)=0 variant(0,9901,3)=1
            variant(0,9999,3)=1
            """);
        Edge.holds("a CARRY: minus: the ones of a are less than those of b", """
            kind(1) range(0,0,31,31) range(0,1,10,22)=13 variant(0,0,3)=0 variant(0,1,3)=0 variant(0,2,3)=1
            variant(0,9,3)=1 variant(0,10,3)=0 variant(0,11,3)=0 variant(0,12,3)=1
            """);
        Edge.holds("a CARRY: times: never", """
            kind(2) range(0,0,99,99) range(0,1,95,99) variant(0,0,3)=0 variant(0,4,3)=0 rule(0,0,2) variants(0)=0
            rule(0,0,1) variants(0)=5
            """);
        Edge.holds("a CARRY: by: never", """
            kind(3) range(0,0,90,90) range(0,1,1,9) variants(0)=6 variant(0,0,3)=0 variant(0,5,3)=0
            rule(0,0,2) variants(0)=0
            rule(0,0,1) variants(0)=6
            """);
    }

    private static void carryLaws() {
        Edge.holds("LAW 1, no carry: plus", """
            kind(0) rule(0,0,1)=0 variants(0)=55 find(0,1,8)=18 find(0,1,9)=NONE find(0,9,0)=54 find(0,9,1)=NONE
            """);
        Edge.holds("LAW 2, with a carry: plus", """
            kind(0) rule(0,0,2)=0 variants(0)=45 find(0,1,8)=NONE find(0,1,9)=0 find(0,9,0)=NONE find(0,9,1)=36
            """);
        Edge.holds("LAW 1, no carry: minus", """
            kind(1) range(0,0,20,21) rule(0,0,1)=0 variants(0)=3 find(0,20,0)=0 find(0,20,1)=NONE
            find(0,21,1)=2 find(0,21,2)=NONE
            """);
        Edge.holds("LAW 2, with a carry: minus", """
            kind(1) range(0,0,20,21) rule(0,0,2)=0 variants(0)=17 find(0,20,0)=NONE find(0,20,1)=0
            find(0,21,1)=NONE find(0,21,2)=9
            """);
        Edge.holds("LAW 0, any: with and without a carry, and again behind another LAW", """
            kind(0) variants(0)=100 find(0,1,8)=18 find(0,1,9)=19 rule(0,0,2) rule(0,0,0)=2 variants(0)=100
            find(0,1,8)=18
            """);
        Edge.holds("a LAW goes with the answers' from .. to", """
            kind(0) range(0,2,10,10)=9 rule(0,0,1) variants(0)=0 rule(0,0,2) variants(0)=9 range(0,2,0,9)=0
            """);
    }

    private static void slipLaw() {
        Edge.holds("LAW 3, plus: a minus b tells a plus b if b is 0", """
            kind(0) rule(0,0,3)=0 variants(0)=90 find(0,0,0)=NONE find(0,9,0)=NONE find(0,9,1)=81 find(0,0,1)=0
            """);
        Edge.holds("LAW 3, minus: a plus b tells a minus b if b is 0", """
            kind(1) rule(0,0,3)=0 variants(0)=45 find(0,0,0)=NONE find(0,9,0)=NONE find(0,1,1)=0 find(0,9,1)=36
            """);
        Edge.holds("LAW 3, times: a plus b tells a times b at 0, 0 and 2, 2", """
            kind(2) rule(0,0,3)=0 variants(0)=98 find(0,0,0)=NONE find(0,0,1)=0 find(0,2,1)=20
            find(0,2,2)=NONE find(0,2,3)=21
            range(0,0,0,99) range(0,1,0,99)=9998
            """);
        Edge.holds("LAW 3, by: a minus b tells a by b at 4, 2", """
            kind(3) rule(0,0,3)=0 variants(0)=31 find(0,4,1)=14 find(0,4,2)=NONE find(0,4,4)=15
            range(0,0,0,99) range(0,1,0,99)=571
            """);
        Edge.holds("LAW 3: a SLIP that there is not tells nothing", """
            kind(3) rule(0,0,3) find(0,0,1)=0 find(0,0,9)=8 kind(0) rule(1,0,3) find(1,1,9)=17
            """);
    }

    private static void unknownKinds() {
        Edge.holds("UNKNOWN: there is no such KIND: none at all", """
            range(0,0,0,9)=UNKNOWN rule(0,0,0)=UNKNOWN variants(0)=UNKNOWN variant(0,0,0)=UNKNOWN find(0,0,0)=UNKNOWN
            slip(0,0,1)=UNKNOWN tells(0,0,0)=UNKNOWN plan(0,1)=UNKNOWN missed(0,0)=UNKNOWN
            review(0,1,0)=UNKNOWN all(0)=UNKNOWN
            """);
        String[] calls = {"range(#,0,0,9)", "rule(#,0,0)", "variants(#)", "variant(#,0,0)", "find(#,0,0)",
            "slip(#,0,1)", "tells(#,0,0)", "plan(#,1)", "missed(0,#)", "review(0,1,#)", "all(#)"};
        for (String call : calls) {
            Edge.ends("UNKNOWN: there is no such KIND", "kind(0) kind(2) plan(0,2) 3*mark(0,1,99)", call,
                "0 1", "2 8 -1 -2 -8 -10 MIN MAX", "UNKNOWN");
        }
    }

    private static void unknownVariants() {
        for (String call : new String[] {"variant(0,#,0)", "slip(0,#,3)", "tells(0,#,0)"}) {
            Edge.ends("UNKNOWN: there is no such VARIANT", "kind(1) variants(0)=55", call,
                "0 54", "55 100 -1 -9 MIN MAX", "UNKNOWN");
        }
        Edge.holds("UNKNOWN: there is no such VARIANT: of a KIND that has none", """
            kind(1) rule(0,0,2) variants(0)=0 variant(0,0,0)=UNKNOWN slip(0,0,1)=UNKNOWN tells(0,0,0)=UNKNOWN
            """);
        Edge.holds("UNKNOWN: there is no such VARIANT any more", """
            kind(0) variant(0,99,0)=9 range(0,0,0,0)=10 variant(0,99,0)=UNKNOWN variant(0,10,0)=UNKNOWN variant(0,9,1)=9
            """);
    }
}
