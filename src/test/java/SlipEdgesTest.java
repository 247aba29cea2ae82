/** The edges of slips (terms 1, promises 8 and 9), a run of calls for each sentence. */
public final class SlipEdgesTest {
    public static void main(String[] args) {
        otherOperation();
        noCarrying();
        oneMoreOneLess();
        exchanged();
        slipNumbers();
        right();
        least();
        none();
        Due.end();
    }

    /** The one variant of an operation at a and b, with what a slip tells there. */
    private static String at(int operation, int a, int b, int slip, String due) {
        return "kind(%1$d) range(0,0,%2$d,%2$d) range(0,1,%3$d,%3$d)=1 slip(0,0,%4$d)=%5$s"
            .formatted(operation, a, b, slip, due);
    }

    private static String told(int operation, int a, int b, String answer, String due) {
        return "kind(%1$d) range(0,0,%2$d,%2$d) range(0,1,%3$d,%3$d)=1 tells(0,0,%4$s)=%5$s"
            .formatted(operation, a, b, answer, due);
    }

    private static void otherOperation() {
        Edge.holds("SLIP 1: minus for plus: down to 0", at(0, 7, 7, 1, "0"));
        Edge.holds("SLIP 1: minus for plus: none, if a is below b", at(0, 7, 8, 1, "NONE"));
        Edge.holds("SLIP 1: minus for plus: none, if a is below b: by the most", at(0, 0, 99, 1, "NONE"));
        Edge.holds("SLIP 1: minus for plus: by the most", at(0, 99, 0, 1, "99"));
        Edge.holds("SLIP 1: a plus b for minus: the least", at(1, 0, 0, 1, "0"));
        Edge.holds("SLIP 1: a plus b for minus: the greatest", at(1, 99, 99, 1, "198"));
        Edge.holds("SLIP 1: a plus b for times: the least", at(2, 0, 0, 1, "0"));
        Edge.holds("SLIP 1: a plus b for times: also if a is below b", at(2, 3, 8, 1, "11"));
        Edge.holds("SLIP 1: a plus b for times: the greatest", at(2, 99, 99, 1, "198"));
        Edge.holds("SLIP 1: a minus b for by: down to 0", at(3, 8, 8, 1, "0"));
        Edge.holds("SLIP 1: a minus b for by: none, if a is below b", at(3, 0, 1, 1, "NONE"));
        Edge.holds("SLIP 1: a minus b for by: the greatest", at(3, 99, 1, 1, "98"));
    }

    private static void noCarrying() {
        Edge.holds("SLIP 2 (if there is a CARRY): plus: ones of 9 have none", at(0, 4, 5, 2, "NONE"));
        Edge.holds("SLIP 2: plus: ones of 10: without the ten", at(0, 5, 5, 2, "0"));
        Edge.holds("SLIP 2: plus: the greatest: 10 less than the answer", at(0, 99, 99, 2, "188"));
        Edge.holds("SLIP 2 (if there is a CARRY): tens that make a hundred are none", at(0, 50, 50, 2, "NONE"));
        Edge.holds("SLIP 2 (if there is a CARRY): minus: like ones have none", at(1, 41, 31, 2, "NONE"));
        Edge.holds("SLIP 2: minus: ones that are one less, tens by themselves", at(1, 41, 32, 2, "11"));
        Edge.holds("SLIP 2: minus: the lesser one of the ones from the greater one: 9 less 0", at(1, 90, 9, 2, "99"));
        Edge.holds("SLIP 2: minus: tens by themselves: 9 less 0", at(1, 98, 9, 2, "91"));
        Edge.holds("SLIP 2: times: no CARRY, none", at(2, 99, 99, 2, "NONE"));
        Edge.holds("SLIP 2: by: no CARRY, none", at(3, 90, 9, 2, "NONE"));
    }

    private static void oneMoreOneLess() {
        Edge.holds("SLIP 3: one more: than 0", at(0, 0, 0, 3, "1"));
        Edge.holds("SLIP 3: one more: than the greatest answer", at(2, 99, 99, 3, "9802"));
        Edge.holds("SLIP 3: one more: also beyond the answers' to",
            "kind(0) range(0,2,0,18) slip(0,99,3)=19 range(0,2,18,18)=1 slip(0,0,3)=19");
        Edge.holds("SLIP 4: one less (none below 0): than 0", at(1, 5, 5, 4, "NONE"));
        Edge.holds("SLIP 4: one less (none below 0): than 1", at(1, 6, 5, 4, "0"));
        Edge.holds("SLIP 4: one less: than the greatest answer", at(2, 99, 99, 4, "9800"));
        Edge.holds("SLIP 4: one less: also below the answers' from",
            "kind(0) range(0,2,18,18)=1 slip(0,0,4)=17");
    }

    private static void exchanged() {
        Edge.holds("SLIP 5 (answers of two figures): 0 has one", at(0, 0, 0, 5, "NONE"));
        Edge.holds("SLIP 5 (answers of two figures): 9 has one", at(0, 9, 0, 5, "NONE"));
        Edge.holds("SLIP 5 (answers of two figures): 10 has two", at(0, 10, 0, 5, "1"));
        Edge.holds("SLIP 5 (that are unlike): 11", at(0, 11, 0, 5, "NONE"));
        Edge.holds("SLIP 5: the ones ahead: 12", at(0, 12, 0, 5, "21"));
        Edge.holds("SLIP 5: the ones ahead: 90", at(0, 90, 0, 5, "9"));
        Edge.holds("SLIP 5: the ones ahead: 98", at(0, 98, 0, 5, "89"));
        Edge.holds("SLIP 5 (that are unlike): 99", at(0, 99, 0, 5, "NONE"));
        Edge.holds("SLIP 5 (answers of two figures): 100 has three", at(0, 99, 1, 5, "NONE"));
        Edge.holds("SLIP 5 (answers of two figures): 198 has three", at(0, 99, 99, 5, "NONE"));
        Edge.holds("SLIP 5 (answers of two figures): 1056 has four", at(2, 96, 11, 5, "NONE"));
        Edge.holds("SLIP 5: of minus, times and by too", """
            kind(1) range(0,0,41,41) range(0,1,28,28) slip(0,0,5)=31 kind(2) range(1,0,6,6) range(1,1,7,7)
            slip(1,0,5)=24
            kind(3) range(2,0,84,84) range(2,1,4,4) slip(2,0,5)=12
            """);
    }

    private static void slipNumbers() {
        Edge.holds("SLIP (1 .. 5): the ends are taken", """
            kind(0) range(0,0,16,16) range(0,1,5,5)=1 slip(0,0,1)=11 slip(0,0,5)=12
            """);
        Edge.holds("SLIP (1 .. 5): beyond them it is BAD", """
            kind(0) slip(0,0,0)=BAD slip(0,0,6)=BAD slip(0,0,-1)=BAD slip(0,0,-9)=BAD slip(0,0,MIN)=BAD
            slip(0,0,MAX)=BAD
            """);
    }

    private static void right() {
        Edge.holds("tells: 0: it is right", told(0, 38, 27, "65", "0"));
        Edge.holds("tells: 0: it is right, though SLIP 1 tells it: plus", told(0, 7, 0, "7", "0"));
        Edge.holds("tells: 0: it is right, though SLIP 1 tells it: minus", told(1, 7, 0, "7", "0"));
        Edge.holds("tells: 0: it is right, though SLIP 1 tells it: times", told(2, 2, 2, "4", "0"));
        Edge.holds("tells: 0: it is right, though SLIP 1 tells it: by", told(3, 4, 2, "2", "0"));
        Edge.holds("tells: 0: it is right: the least answer", told(2, 0, 0, "0", "0"));
        Edge.holds("tells: 0: it is right: the greatest answer", told(2, 99, 99, "9801", "0"));
    }

    private static void least() {
        Edge.holds("the least SLIP that tells it: each by itself", """
            kind(0) range(0,0,38,38) range(0,1,27,27)=1
            tells(0,0,11)=1 tells(0,0,55)=2 tells(0,0,66)=3 tells(0,0,64)=4 tells(0,0,56)=5
            """);
        Edge.holds("the least SLIP that tells it: 1 and 2 of plus", told(0, 5, 5, "0", "1"));
        Edge.holds("the least SLIP that tells it: 1 and 2 of minus", told(1, 90, 1, "91", "1"));
        Edge.holds("the least SLIP that tells it: 1 and 3 of times", told(2, 5, 1, "6", "1"));
        Edge.holds("the least SLIP that tells it: 1 and 3 of by", told(3, 6, 3, "3", "1"));
        Edge.holds("the least SLIP that tells it: 1 and 4 of times", told(2, 3, 2, "5", "1"));
        Edge.holds("the least SLIP that tells it: 1 and 4 of by", told(3, 1, 1, "0", "1"));
        Edge.holds("the least SLIP that tells it: 1 and 5 of times", told(2, 9, 9, "18", "1"));
    }

    private static void none() {
        Edge.holds("tells: NONE: no SLIP tells it", told(0, 38, 27, "57", "NONE"));
        Edge.holds("tells: NONE: below 0 nothing is told: one less than 0", told(1, 5, 5, "-1", "NONE"));
        Edge.holds("tells: NONE: what a SLIP that there is not answers is not told", told(1, 5, 5, "NONE", "NONE"));
        Edge.holds("tells: NONE: a below b", told(0, 3, 12, "-9", "NONE"));
        Edge.holds("tells: NONE: the least and the greatest of all numbers", """
            kind(0) tells(0,0,MIN)=NONE tells(0,0,MAX)=NONE tells(0,99,MIN)=NONE tells(0,99,MAX)=NONE
            tells(0,99,10000)=NONE
            """);
        Edge.holds("tells is no MARK",
            "kind(0) plan(0,1) tells(0,0,0)=0 tells(0,0,5)=NONE total(3)=0 total(4)=0 all(0)=0");
    }
}
