/** The boundary cases of the row and its endings, and of promises 6 to 11. */
public final class EndingBoundaryTest extends Mappers {
    private static final int[] NO_ENDINGS_OF_SEVEN = {7, 8, -1, -2, 256, LOW, HIGH};

    private EndingBoundaryTest() {
    }

    public static void main(String[] args) {
        Cases.run(EndingBoundaryTest.class);
    }

    private static void find(Checks c, ReadMapper x, String text, Object want) {
        c.taken(x, text, x::find, want);
    }

    // The row

    @Boundary("with a mark $ between two of them and a mark # at its end")
    private static void rowOfOneBase(Checks c) {
        ReadMapper x = built(0, "a:A");
        c.due("A#: endings", suffixes(x, 2), "[1, 0]");
        c.due("A#: turned row", turnedRow(x, 2), "[2, 0]");
    }

    @Boundary("with a mark $ between two of them and a mark # at its end")
    private static void rowOfOnePieceHasOneMark(Checks c) {
        ReadMapper x = built(0, "a:CA");
        c.due("CA#: endings", suffixes(x, 3), "[2, 1, 0]");
        c.due("one #", x.occ(0, 3), 1);
        c.due("no $", x.occ(1, 3), 0);
    }

    @Boundary("with a mark $ between two of them and a mark # at its end")
    private static void rowOfFivePiecesHasFiveMarks(Checks c) {
        ReadMapper x = largest(0);
        c.due("one #", x.occ(0, 65), 1);
        c.due("four $", x.occ(1, 65), 4);
        c.throwing("the least ending is # alone", () -> x.suffix(0), 64);
        c.due("T stands before it", x.turned(0), 6);
    }

    @Boundary("THE ROW is the bases of all pieces, in order")
    private static void rowKeepsTheOrderOfPieces(Checks c) {
        ReadMapper x = built(0, "z:CC", "a:A");
        // CC$A#: #, $A#, A#, C$A#, CC$A#
        c.due("endings", suffixes(x, 5), "[4, 2, 3, 1, 0]");
        c.due("turned row", turnedRow(x, 5), "[2, 3, 1, 3, 0]");
    }

    @Boundary("Its symbols are, from the least to the greatest: 0 #, 1 $, 2 A, 3 C, 4 G, 5 N, 6 T.")
    private static void rowOfAllSymbols(Checks c) {
        ReadMapper x = built(0, "a:T", "b:NGCA");
        // T$NGCA#: #, $NGCA#, A#, CA#, GCA#, NGCA#, T$NGCA#
        c.due("endings", suffixes(x, 7), "[6, 1, 5, 4, 3, 2, 0]");
        c.due("turned row", turnedRow(x, 7), "[2, 6, 3, 4, 5, 1, 0]");
    }

    @Boundary("they are SORTED symbol by symbol")
    private static void endingsThatBeginWithTheSameMark(Checks c) {
        ReadMapper x = built(0, "a:A", "b:A", "c:A");
        // A$A$A#: #, $A#, $A$A#, A#, A$A#, A$A$A#
        c.due("endings", suffixes(x, 6), "[5, 3, 1, 4, 2, 0]");
        c.due("turned row", turnedRow(x, 6), "[2, 2, 2, 1, 1, 0]");
    }

    @Boundary("they are SORTED symbol by symbol")
    private static void endingsThatAreAlikeToTheEnd(Checks c) {
        ReadMapper x = built(0, "a:" + "A".repeat(60));
        boolean shorterFirst = true;
        for (int i = 0; i <= 60; i++) {
            shorterFirst &= x.suffix(i) == 60 - i;
        }
        c.due("the shorter one is less: # is less than A", shorterFirst, true);
    }

    @Boundary("TURNED(i) is the symbol at the place before that, or # if that is place 0")
    private static void turnedOfPlaceZero(Checks c) {
        ReadMapper x = small(0);
        c.throwing("ending 4 begins at place 0", () -> x.suffix(4), 0);
        c.due("#", x.turned(4), 0);
        c.due("this once alone", x.occ(0, 7), 1);
    }

    // Promise 6

    @Boundary("IndexOutOfBoundsException if the row has no place i")
    private static void suffixBeyondTheRow(Checks c) {
        ReadMapper x = small(0);
        for (int i : NO_ENDINGS_OF_SEVEN) {
            c.throwing("suffix(" + i + ")", () -> x.suffix(i), BOUNDS);
        }
        ReadMapper most = largest(0);
        c.throwing("suffix(65) of 65", () -> most.suffix(65), BOUNDS);
        ReadMapper least = built(0, "a:A");
        c.throwing("suffix(2) of 2", () -> least.suffix(2), BOUNDS);
    }

    @Boundary("Suffix(i).")
    private static void suffixOfTheFirstAndTheLast(Checks c) {
        ReadMapper x = small(0);
        c.throwing("the first", () -> x.suffix(0), 6);
        c.throwing("the last", () -> x.suffix(6), 4);
        ReadMapper most = largest(0);
        // Of the endings TN.., the one that has the most bases behind it is the greatest.
        c.throwing("the last of 65", () -> most.suffix(64), 3);
    }

    @Boundary("IllegalStateException if the index is empty (that first)")
    private static void suffixOfAnEmptyIndex(Checks c) {
        ReadMapper x = withPieces("a:ACA");
        for (int i : new int[] {0, 3, 4, -1, LOW, HIGH}) {
            c.throwing("suffix(" + i + ")", () -> x.suffix(i), STATE);
        }
        x.build(0);
        x.drop();
        c.throwing("dropped: suffix(0)", () -> x.suffix(0), STATE);
        c.throwing("dropped: suffix(4)", () -> x.suffix(4), STATE);
    }

    // Promise 7

    @Boundary("(itself too)")
    private static void stepsWithRateOne(Checks c) {
        c.due("every place is a multiple", allSteps(small(0), 7), "[0, 0, 0, 0, 0, 0, 0]");
    }

    @Boundary("the next one, going back from it (itself too), that is a multiple of the rate")
    private static void stepsWithRateTwo(Checks c) {
        // The endings begin at 6, 3, 5, 2, 0, 1, 4.
        c.due("steps", allSteps(small(1), 7), "[0, 1, 1, 0, 0, 1, 0]");
    }

    @Boundary("that is a multiple of the rate")
    private static void stepsWithRateEight(Checks c) {
        ReadMapper x = built(7, "a:" + "A".repeat(17));
        // Ending i begins at 17 - i.
        c.due("place 17", x.steps(0), 1);
        c.due("place 16", x.steps(1), 0);
        c.due("place 15", x.steps(2), 7);
        c.due("place 8", x.steps(9), 0);
        c.due("place 7", x.steps(10), 7);
        c.due("place 0", x.steps(17), 0);
    }

    @Boundary("that is a multiple of the rate")
    private static void stepsWhenTheRateIsMoreThanThePlaces(Checks c) {
        c.due("only 0 is a multiple", allSteps(small(7), 7), "[6, 3, 5, 2, 0, 1, 4]");
        c.due("rate 7: and 7 would be one", allSteps(small(6), 7), "[6, 3, 5, 2, 0, 1, 4]");
        c.due("rate 6: 0 and 6", allSteps(small(5), 7), "[0, 3, 5, 2, 0, 1, 4]");
    }

    @Boundary("NONE if there is no ending i or the index is empty.")
    private static void stepsBeyondTheRow(Checks c) {
        ReadMapper x = small(0);
        for (int i : NO_ENDINGS_OF_SEVEN) {
            c.due("steps(" + i + ")", x.steps(i), -1);
        }
        c.due("steps(65) of 65", largest(0).steps(65), -1);
    }

    @Boundary("NONE if there is no ending i or the index is empty.")
    private static void stepsOfAnEmptyIndex(Checks c) {
        ReadMapper x = withPieces("a:A");
        c.due("not built", x.steps(0), -1);
        x.build(0);
        c.due("built", x.steps(0), 0);
        x.drop();
        c.due("dropped", x.steps(0), -1);
    }

    // Promise 8

    @Boundary("Turned(i); NONE if there is no ending i or the index is empty.")
    private static void turnedBeyondTheRow(Checks c) {
        ReadMapper x = small(0);
        c.due("the last one", x.turned(6), 1);
        for (int i : NO_ENDINGS_OF_SEVEN) {
            c.due("turned(" + i + ")", x.turned(i), -1);
        }
        ReadMapper most = largest(0);
        c.due("turned(64) of 65", most.turned(64), 4);
        c.due("turned(65) of 65", most.turned(65), -1);
    }

    @Boundary("Turned(i); NONE if there is no ending i or the index is empty.")
    private static void turnedOfAnEmptyIndex(Checks c) {
        ReadMapper x = withPieces("a:A");
        c.due("not built", x.turned(0), -1);
        x.build(0);
        c.due("built", x.turned(0), 2);
        x.drop();
        c.due("dropped", x.turned(0), -1);
    }

    @Boundary("Turned(i); NONE if there is no ending i")
    private static void turnedAfterASmallerRow(Checks c) {
        ReadMapper x = stored(0, "a:A");
        x.drop();
        Checks.say(x, "b:CCC");
        x.piece();
        x.build(0);
        c.due("A$CCC# has ending 5", x.turned(5) >= 0, true);
        x.load();
        c.due("A# has ending 1", x.turned(1), 0);
        c.due("but not ending 2", x.turned(2), -1);
    }

    // Promise 9

    @Boundary("OCC(s, i) is how many of turned(0) to turned(i - 1) are s")
    private static void occOfNoneAndOfAll(Checks c) {
        ReadMapper x = small(0);
        // The turned row is A A G C # A $.
        int[] all = {1, 1, 3, 1, 1, 0, 0};
        for (int s = 0; s <= 6; s++) {
            c.due("occ(" + s + ", 0)", x.occ(s, 0), 0);
            c.due("occ(" + s + ", 7)", x.occ(s, 7), all[s]);
        }
        c.due("before ending 5", x.occ(2, 5), 2);
        c.due("up to ending 5", x.occ(2, 6), 3);
    }

    @Boundary("NONE if s is not 0 .. 6")
    private static void occOfNoSymbol(Checks c) {
        ReadMapper x = small(0);
        for (int s : new int[] {-1, 7, 8, 65, LOW, HIGH}) {
            for (int i : new int[] {0, 3, 7}) {
                c.due("occ(" + s + ", " + i + ")", x.occ(s, i), -1);
            }
        }
    }

    @Boundary("i is not 0 .. the number of places")
    private static void occBeyondTheRow(Checks c) {
        ReadMapper x = small(0);
        for (int i : new int[] {-1, 8, 9, LOW, HIGH}) {
            c.due("occ(2, " + i + ")", x.occ(2, i), -1);
        }
        ReadMapper most = largest(0);
        c.due("occ(1, 65) of 65", most.occ(1, 65), 4);
        c.due("occ(1, 66) of 65", most.occ(1, 66), -1);
    }

    @Boundary("or the index is empty")
    private static void occOfAnEmptyIndex(Checks c) {
        ReadMapper x = withPieces("a:A");
        c.due("not built", x.occ(2, 0), -1);
        x.build(0);
        c.due("built", x.occ(2, 0), 0);
        x.drop();
        c.due("dropped", x.occ(2, 0), -1);
    }

    // Promise 10

    @Boundary("Takes the text as a row of one base or more, none of them N")
    private static void findOfAnEmptyText(Checks c) {
        c.throwing("nothing", () -> small(0).find(), ARGUMENT);
    }

    @Boundary("Takes the text as a row of one base or more, none of them N")
    private static void findOfN(Checks c) {
        for (String text : new String[] {"N", "NA", "AN", "ANA", "NN", "A".repeat(71) + "N"}) {
            find(c, built(0, "a:ANNA"), text, ARGUMENT);
        }
    }

    @Boundary("IllegalArgumentException if it is not that")
    private static void findOfEachCharacter(Checks c) {
        for (char code = 32; code <= 126; code++) {
            boolean isBase = "ACGT".indexOf(code) >= 0;
            find(c, built(0, "a:ACAGATAA"), "" + code, isBase ? (code == 'A' ? 5 : 1) : ARGUMENT);
            find(c, built(0, "a:ACAGATAA"), "A" + code + "A", isBase ? (code == 'A' ? 0 : 1) : ARGUMENT);
        }
    }

    @Boundary("how many endings begin with it")
    private static void findOfTheWholePiece(Checks c) {
        ReadMapper x = small(0);
        find(c, x, "ACA", 1);
        find(c, x, "GA", 1);
        ReadMapper most = built(0, "a:" + "ACGT".repeat(15));
        find(c, most, "ACGT".repeat(15), 1);
    }

    @Boundary("how many endings begin with it")
    private static void findOfMoreThanThereIs(Checks c) {
        ReadMapper x = small(0);
        find(c, x, "GAA", 0);
        find(c, x, "ACAGA", 0);
        find(c, x, "GA".repeat(36), 0);
        find(c, built(0, "a:" + "A".repeat(60)), "A".repeat(61), 0);
        find(c, built(0, "a:" + "A".repeat(60)), "A".repeat(72), 0);
    }

    @Boundary("how many endings begin with it")
    private static void findDoesNotGoOverAMark(Checks c) {
        ReadMapper x = built(0, "a:AC", "b:CA");
        find(c, x, "CC", 0);
        find(c, x, "ACCA", 0);
        find(c, x, "C", 2);
    }

    @Boundary("how many endings begin with it")
    private static void findOfWhatOverlaps(Checks c) {
        find(c, built(0, "a:AAAA"), "AA", 3);
        find(c, built(0, "a:" + "A".repeat(60)), "A", 60);
    }

    @Boundary("IllegalStateException if the index is empty.")
    private static void findInAnEmptyIndex(Checks c) {
        find(c, new ReadMapper(), "A", STATE);
        ReadMapper x = withPieces("a:A");
        find(c, x, "A", STATE);
        x.build(0);
        find(c, x, "A", 1);
        x.drop();
        find(c, x, "A", STATE);
    }

    @Boundary("(The one named first, if both hold.)")
    private static void findWrongInAnEmptyIndex(Checks c) {
        c.throwing("nothing", () -> new ReadMapper().find(), ARGUMENT);
        find(c, new ReadMapper(), "N", ARGUMENT);
        find(c, withPieces("a:A"), "A:", ARGUMENT);
    }

    // Promise 11

    @Boundary("nothing was looked for since the index was built or loaded")
    private static void firstOfNothingLookedFor(Checks c) {
        ReadMapper x = withPieces("a:ACA");
        c.due("not built", x.first(), -1);
        x.build(0);
        c.due("built", x.first(), -1);
        mapped(x, "r:A", 0);
        c.due("what is mapped is not looked for", x.first(), -1);
    }

    @Boundary("nothing was looked for since the index was built or loaded")
    private static void firstAfterDropAndBuild(Checks c) {
        ReadMapper x = small(0);
        found(x, "A");
        c.due("found", x.first(), 2);
        x.drop();
        c.due("dropped", x.first(), -1);
        x.build(0);
        c.due("built", x.first(), -1);
    }

    @Boundary("nothing was looked for since the index was built or loaded")
    private static void firstAfterLoad(Checks c) {
        ReadMapper x = small(0);
        x.store();
        found(x, "A");
        c.due("found", x.first(), 2);
        x.load();
        c.due("loaded", x.first(), -1);
        found(x, "A");
        c.due("found again", x.first(), 2);
    }

    @Boundary("NONE if none does")
    private static void firstOfWhatIsNotThere(Checks c) {
        ReadMapper x = small(0);
        found(x, "A");
        found(x, "T");
        c.due("no T", x.first(), -1);
        found(x, "AA");
        c.due("no AA", x.first(), -1);
    }

    @Boundary("what find() looked for latest")
    private static void firstAfterFindThatThrows(Checks c) {
        ReadMapper x = small(0);
        find(c, x, "N", ARGUMENT);
        c.due("nothing yet", x.first(), -1);
        found(x, "CA");
        find(c, x, "NA", ARGUMENT);
        c.throwing("an empty text", x::find, ARGUMENT);
        c.due("still CA", x.first(), 5);
    }

    @Boundary("The least i for which ending i begins with what find() looked for latest")
    private static void firstOfSeveralAndOfTheLast(Checks c) {
        ReadMapper x = built(0, "a:" + "A".repeat(60));
        found(x, "A");
        c.due("of sixty the first behind #", x.first(), 1);
        found(x, "A".repeat(60));
        c.due("the last ending", x.first(), 60);
    }
}
