/** The boundary cases of names and pieces, of a new object, and of promises 3, 4 and 5. */
public final class PieceBoundaryTest extends Mappers {
    private PieceBoundaryTest() {
    }

    public static void main(String[] args) {
        Cases.run(PieceBoundaryTest.class);
    }

    private static boolean isNameCharacter(char code) {
        return "abcdefghijklmnopqrstuvwxyzABCDEFGHIJKLMNOPQRSTUVWXYZ0123456789_".indexOf(code) >= 0;
    }

    private static void piece(Checks c, ReadMapper x, String text, Object want) {
        c.taken(x, text, x::piece, want);
    }

    private static ReadMapper five() {
        return withPieces("a:A", "b:A", "c:A", "d:A", "e:A");
    }

    private static ReadMapper full() {
        return withPieces("a:" + "A".repeat(60));
    }

    // Promise 1

    @Boundary("No pieces, an empty index, no image, nothing mapped.")
    private static void newHasNoPieces(Checks c) {
        c.throwing("build", () -> new ReadMapper().build(0), STATE);
        piece(c, new ReadMapper(), "a:A", 0);
    }

    @Boundary("No pieces, an empty index, no image, nothing mapped.")
    private static void newHasAnEmptyIndex(Checks c) {
        ReadMapper x = new ReadMapper();
        c.throwing("suffix", () -> x.suffix(0), STATE);
        c.due("steps", x.steps(0), -1);
        c.due("turned", x.turned(0), -1);
        c.due("occ", x.occ(0, 0), -1);
        c.throwing("store", x::store, STATE);
        c.taken(x, "A", x::find, STATE);
        c.taken(x, "r:A", () -> x.map(0), STATE);
        c.due("drop", x.drop(), false);
    }

    @Boundary("No pieces, an empty index, no image, nothing mapped.")
    private static void newHasNoImage(Checks c) {
        ReadMapper x = new ReadMapper();
        c.due("image", x.image(0), -1);
        c.due("spoil", x.spoil(0, 1), false);
        c.due("cut", x.cut(), false);
        c.throwing("load", x::load, UNSUPPORTED);
    }

    @Boundary("No pieces, an empty index, no image, nothing mapped.")
    private static void newHasNothingMapped(Checks c) {
        ReadMapper x = new ReadMapper();
        c.due("hit", x.hit(0, 0), -1);
        c.due("record", x.record(0), -1);
        c.due("letter", x.letter(0, 0), -1);
        c.due("first", x.first(), -1);
    }

    @Boundary("No pieces, an empty index, no image, nothing mapped.")
    private static void newSharesNothingWithOthers(Checks c) {
        ReadMapper other = stored(0, "a:A");
        Checks.say(other, "A");
        ReadMapper x = new ReadMapper();
        piece(c, x, "b:C", 0);
        c.due("no image", x.image(0), -1);
        c.throwing("its own row", () -> x.build(0), 2);
        c.due("its own turned row", x.turned(0), 3);
        c.throwing("the other's text", other::find, 1);
    }

    // Names

    @Boundary("A NAME is 1 to 8 characters a .. z, A .. Z, 0 .. 9 and _.")
    private static void nameOfEachCharacter(Checks c) {
        for (char code = 32; code <= 126; code++) {
            Object want = isNameCharacter(code) ? (Object) 0 : ARGUMENT;
            piece(c, new ReadMapper(), code + ":A", want);
            piece(c, new ReadMapper(), "abcdefg" + code + ":A", want);
            piece(c, new ReadMapper(), code + "bcdefgh:A", want);
        }
    }

    @Boundary("A NAME is 1 to 8 characters")
    private static void nameOfNone(Checks c) {
        piece(c, new ReadMapper(), ":A", ARGUMENT);
    }

    @Boundary("A NAME is 1 to 8 characters")
    private static void nameOfOneToNine(Checks c) {
        for (int length = 1; length <= 8; length++) {
            piece(c, new ReadMapper(), "x".repeat(length) + ":A", 0);
        }
        piece(c, new ReadMapper(), "x".repeat(9) + ":A", ARGUMENT);
        piece(c, new ReadMapper(), "x".repeat(70) + ":A", ARGUMENT);
    }

    @Boundary("each has a name, no two the same")
    private static void namesThatAreAlmostTheSame(Checks c) {
        ReadMapper x = withPieces("ab:A", "a:A", "aB:A", "ab_:A");
        piece(c, x, "ab:A", ARGUMENT);
        piece(c, x, "b:A", 4);
    }

    // Promise 3

    @Boundary("PIECES are numbered 0, 1, .. as they are added, at most 5")
    private static void piecesAreFive(Checks c) {
        ReadMapper x = new ReadMapper();
        for (int p = 0; p < 5; p++) {
            piece(c, x, "p" + p + ":A", p);
        }
        piece(c, x, "p5:A", STATE);
        c.throwing("five pieces", () -> x.build(0), 10);
    }

    @Boundary("one base or more")
    private static void pieceOfNoBase(Checks c) {
        ReadMapper x = new ReadMapper();
        piece(c, x, "a:", ARGUMENT);
        piece(c, x, "a:N", 0);
        c.throwing("one base", () -> x.build(0), 2);
    }

    @Boundary("all together at most 60")
    private static void pieceOf60(Checks c) {
        ReadMapper x = new ReadMapper();
        piece(c, x, "a:" + "ACGTN".repeat(12), 0);
        c.throwing("60 bases", () -> x.build(0), 61);
    }

    @Boundary("or there would be more than 60 bases")
    private static void pieceOf61(Checks c) {
        ReadMapper x = new ReadMapper();
        piece(c, x, "a:" + "A".repeat(61), STATE);
        piece(c, x, "a:" + "A".repeat(70), STATE);
        c.throwing("none was added", () -> x.build(0), STATE);
        piece(c, x, "a:" + "A".repeat(60), 0);
    }

    @Boundary("all together at most 60")
    private static void piecesOf60Together(Checks c) {
        ReadMapper x = withPieces("a:" + "A".repeat(20), "b:" + "C".repeat(20), "c:" + "G".repeat(19));
        piece(c, x, "d:TT", STATE);
        piece(c, x, "d:T", 3);
        c.throwing("60 bases", () -> x.build(0), 64);
    }

    @Boundary("or there would be more than 60 bases")
    private static void pieceBehind60(Checks c) {
        ReadMapper x = full();
        piece(c, x, "b:A", STATE);
        c.throwing("one piece", () -> x.build(0), 61);
    }

    @Boundary("all together at most 60")
    private static void piecesOf60AreFiveAtMost(Checks c) {
        ReadMapper x = new ReadMapper();
        for (int p = 0; p < 5; p++) {
            piece(c, x, "p" + p + ":" + "ACGT".repeat(3), p);
        }
        c.throwing("60 bases in five pieces", () -> x.build(0), 65);
    }

    @Boundary("IllegalStateException if the index is not empty, there are 5 pieces, or there would be more")
    private static void pieceThatIsRefusedIsNotThere(Checks c) {
        ReadMapper x = withPieces("a:" + "A".repeat(58));
        piece(c, x, "b:CCC", STATE);
        piece(c, x, "b:CC", 1);
        c.throwing("both", () -> x.build(0), 62);
        c.due("the right one", x.occ(3, 62), 2);
    }

    @Boundary("Takes the text as a name, a colon and bases")
    private static void pieceOfEachBase(Checks c) {
        for (char code = 32; code <= 126; code++) {
            Object want = "ACGTN".indexOf(code) >= 0 ? (Object) 0 : ARGUMENT;
            piece(c, new ReadMapper(), "a:" + code, want);
            piece(c, new ReadMapper(), "a:" + code + "A", want);
            piece(c, new ReadMapper(), "a:A" + code, want);
        }
    }

    @Boundary("IllegalArgumentException if it is not that")
    private static void pieceWithoutColon(Checks c) {
        piece(c, new ReadMapper(), "A", ARGUMENT);
        piece(c, new ReadMapper(), "aACGT", ARGUMENT);
        piece(c, new ReadMapper(), ":", ARGUMENT);
        piece(c, new ReadMapper(), "a;A", ARGUMENT);
    }

    @Boundary("IllegalArgumentException if it is not that")
    private static void pieceWithTwoColons(Checks c) {
        piece(c, new ReadMapper(), "a::A", ARGUMENT);
        piece(c, new ReadMapper(), "a:A:", ARGUMENT);
        piece(c, new ReadMapper(), "a:A:!", ARGUMENT);
        piece(c, new ReadMapper(), "::", ARGUMENT);
    }

    @Boundary("or the name is there already")
    private static void pieceWhoseNameIsThere(Checks c) {
        ReadMapper x = withPieces("a:A", "b:C", "c:G");
        piece(c, x, "a:T", ARGUMENT);
        piece(c, x, "b:T", ARGUMENT);
        piece(c, x, "c:T", ARGUMENT);
        piece(c, x, "d:T", 3);
    }

    @Boundary("Pieces can be added only while it is empty.")
    private static void pieceWhileTheIndexIsBuilt(Checks c) {
        ReadMapper x = built(0, "a:A");
        piece(c, x, "b:A", STATE);
        x.drop();
        piece(c, x, "b:A", 1);
    }

    @Boundary("Pieces can be added only while it is empty.")
    private static void pieceWhileTheIndexIsLoaded(Checks c) {
        ReadMapper x = stored(0, "a:A");
        x.drop();
        x.load();
        piece(c, x, "b:A", STATE);
        x.drop();
        piece(c, x, "b:A", 1);
    }

    @Boundary("(The one named first, if both hold.)")
    private static void pieceWrongAndIndexReady(Checks c) {
        ReadMapper x = built(0, "a:A");
        piece(c, x, "b:", ARGUMENT);
        piece(c, x, "a:A", ARGUMENT);
    }

    @Boundary("(The one named first, if both hold.)")
    private static void pieceWrongAndFivePieces(Checks c) {
        ReadMapper x = five();
        piece(c, x, "f:a", ARGUMENT);
        piece(c, x, "e:A", ARGUMENT);
        c.throwing("an empty text", x::piece, ARGUMENT);
    }

    @Boundary("(The one named first, if both hold.)")
    private static void pieceWrongAndTooManyBases(Checks c) {
        ReadMapper x = full();
        piece(c, x, "a:A", ARGUMENT);
        piece(c, x, "b:AX", ARGUMENT);
        piece(c, x, "123456789:A", ARGUMENT);
        piece(c, new ReadMapper(), "b:" + "A".repeat(69) + "X", ARGUMENT);
    }

    // Promise 4

    @Boundary("IllegalStateException if it is not empty, or there are no pieces.")
    private static void buildWithoutPieces(Checks c) {
        ReadMapper x = new ReadMapper();
        c.throwing("a new object", () -> x.build(0), STATE);
        piece(c, x, "a:", ARGUMENT);
        c.throwing("after a piece that was refused", () -> x.build(0), STATE);
        c.due("the index is empty", x.drop(), false);
        piece(c, x, "a:A", 0);
        c.throwing("with a piece", () -> x.build(0), 2);
    }

    @Boundary("IllegalStateException if it is not empty")
    private static void buildTwice(Checks c) {
        ReadMapper x = small(2);
        String before = seen(x);
        c.throwing("built", () -> x.build(0), STATE);
        c.due("all stays", seen(x), before);
    }

    @Boundary("IllegalStateException if it is not empty")
    private static void buildWhatIsLoaded(Checks c) {
        ReadMapper x = loaded(2, "a:ACA", "b:GA");
        String before = seen(x);
        c.throwing("loaded", () -> x.build(0), STATE);
        c.due("all stays", seen(x), before);
        x.drop();
        c.throwing("dropped", () -> x.build(0), 7);
    }

    @Boundary("with the rate 1 + the lowest three bits of rate")
    private static void buildWithEachRate(Checks c) {
        int[][] rates = {{0, 1}, {1, 2}, {2, 3}, {3, 4}, {4, 5}, {5, 6}, {6, 7}, {7, 8}, {8, 1}, {9, 2}, {15, 8},
            {16, 1}, {-1, 8}, {-2, 7}, {-7, 2}, {-8, 1}, {-9, 8}, {256, 1}, {LOW, 1}, {LOW + 1, 2}, {HIGH, 8},
            {HIGH - 1, 7}};
        for (int[] rate : rates) {
            ReadMapper x = stored(rate[0], "a:A");
            c.due("the rate of build(" + rate[0] + ")", x.image(7), rate[1]);
        }
    }

    @Boundary("how many places the row has")
    private static void buildOfTheLeastAndTheMost(Checks c) {
        c.throwing("one base and a mark", () -> withPieces("a:A").build(0), 2);
        ReadMapper x = largest(0);
        x.drop();
        c.throwing("60 bases and five marks", () -> x.build(0), 65);
    }

    @Boundary("When it is built, loaded, or made empty, no read is mapped and nothing is looked for any more.")
    private static void buildForgetsWhatWasAsked(Checks c) {
        ReadMapper x = small(0);
        found(x, "A");
        mapped(x, "r:A", 0);
        x.drop();
        x.build(0);
        c.due("first", x.first(), -1);
        c.due("hit", x.hit(0, 0), -1);
        c.due("record", x.record(0), -1);
        c.due("letter", x.letter(0, 0), -1);
    }

    // Promise 5

    @Boundary("False if it is empty.")
    private static void dropOfNothing(Checks c) {
        c.due("a new object", new ReadMapper().drop(), false);
        ReadMapper x = withPieces("a:A");
        c.due("pieces alone", x.drop(), false);
        c.throwing("which stay", () -> x.build(0), 2);
        c.due("built", x.drop(), true);
        c.due("dropped", x.drop(), false);
        c.due("and again", x.drop(), false);
        c.throwing("the pieces stay", () -> x.build(0), 2);
    }

    @Boundary("The index is empty again")
    private static void dropOfWhatIsLoaded(Checks c) {
        ReadMapper x = loaded(0, "a:A");
        c.due("loaded", x.drop(), true);
        c.due("dropped", x.drop(), false);
        c.throwing("suffix", () -> x.suffix(0), STATE);
        c.throwing("store", x::store, STATE);
        c.throwing("load again", x::load, 2);
        c.due("loaded again", x.drop(), true);
    }

    @Boundary("The index is empty again")
    private static void dropAfterLoadThatThrows(Checks c) {
        ReadMapper x = stored(0, "a:A");
        x.drop();
        x.cut();
        c.throwing("load", x::load, STATE);
        c.due("still empty", x.drop(), false);
    }

    @Boundary("pieces and image stay")
    private static void dropLeavesPieces(Checks c) {
        ReadMapper x = small(0);
        x.drop();
        piece(c, x, "a:A", ARGUMENT);
        piece(c, x, "c:T", 2);
        c.throwing("ACA$GA$T#", () -> x.build(0), 9);
        c.due("ACA", found(x, "ACA"), 1);
    }

    @Boundary("pieces and image stay")
    private static void dropLeavesTheImage(Checks c) {
        ReadMapper x = small(0);
        x.store();
        String before = image(x);
        x.drop();
        c.due("the same image", image(x), before);
    }

    @Boundary("When it is built, loaded, or made empty, no read is mapped and nothing is looked for any more.")
    private static void dropForgetsWhatWasAsked(Checks c) {
        ReadMapper x = small(0);
        found(x, "A");
        mapped(x, "r:A", 0);
        x.drop();
        c.due("first", x.first(), -1);
        c.due("hit", x.hit(0, 0), -1);
        c.due("record", x.record(0), -1);
        c.due("letter", x.letter(0, 0), -1);
    }
}
