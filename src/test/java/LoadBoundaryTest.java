import java.util.ArrayList;
import java.util.Collections;
import java.util.List;

/** The boundary cases of promise 20. */
public final class LoadBoundaryTest extends Mappers {
    /** The image of ACA$GA# with the rate 2, without its sum. */
    private static final List<Integer> SMALL =
            List.of(70, 77, 1, 2, 1, 97, 3, 1, 98, 2, 2, 2, 2, 4, 3, 0, 2, 1, 6, 2, 0, 4);
    private static final int NUMBER_OF_PIECES = 3;
    private static final int NAME_LENGTH = 4;
    private static final int NAME = 5;
    private static final int BASES = 6;
    private static final int OTHER_NAME = 8;
    private static final int OTHER_BASES = 9;
    private static final int RATE = 10;
    private static final int TURNED = 11;
    private static final int SAMPLES = 18;

    private LoadBoundaryTest() {
    }

    public static void main(String[] args) {
        Cases.run(LoadBoundaryTest.class);
    }

    private static List<Integer> changed(int at, int... values) {
        List<Integer> bytes = new ArrayList<>(SMALL);
        for (int b = 0; b < values.length; b++) {
            bytes.set(at + b, values[b]);
        }
        return bytes;
    }

    /** Loads bytes with the right sum into a large index, which must stay if they are refused. */
    private static void loads(Checks c, String what, List<Integer> bytes, Object want) {
        loads(c, what, forged(bytes), want);
    }

    private static void loads(Checks c, String what, ReadMapper x, Object want) {
        c.throwing(what, x::load, want);
        if (want instanceof String) {
            c.due(what + ": the index stays", x.occ(2, 65), 13);
        }
    }

    private static ReadMapper smallStored() {
        return stored(1, "a:ACA", "b:GA");
    }

    // What is loaded

    @Boundary("how many places the row has")
    private static void loadOfTheLeastAndTheMost(Checks c) {
        ReadMapper x = stored(0, "a:N");
        c.throwing("one base", x::load, 2);
        ReadMapper most = largest(0);
        most.store();
        c.throwing("60 bases, five pieces", most::load, 65);
    }

    @Boundary("Loads the index, whether it is empty or not")
    private static void loadIntoAnEmptyIndex(Checks c) {
        ReadMapper x = smallStored();
        x.drop();
        c.throwing("dropped", x::load, 7);
        c.due("the endings", suffixes(x, 7), "[6, 3, 5, 2, 0, 1, 4]");
        c.due("ready", x.drop(), true);
    }

    @Boundary("Loads the index, whether it is empty or not")
    private static void loadIntoAReadyIndex(Checks c) {
        ReadMapper x = smallStored();
        c.throwing("built", x::load, 7);
        c.throwing("loaded", x::load, 7);
        c.due("the turned row", turnedRow(x, 7), "[2, 2, 4, 3, 0, 2, 1]");
    }

    @Boundary("Loads the index, whether it is empty or not")
    private static void loadAgainAndAgainAfterALargerIndex(Checks c) {
        ReadMapper x = forged(SMALL);
        for (int times = 0; times < 4; times++) {
            c.throwing("ACA$GA#", x::load, 7);
            c.due("its endings", suffixes(x, 7), "[6, 3, 5, 2, 0, 1, 4]");
            c.due("its turned row", turnedRow(x, 7), "[2, 2, 4, 3, 0, 2, 1]");
            c.due("no more of the larger one", x.turned(7), -1);
        }
    }

    @Boundary("take the place of all that are there")
    private static void loadTakesThePlaceOfMorePieces(Checks c) {
        ReadMapper x = stored(0, "a:ACA");
        x.drop();
        c.taken(x, "b:GG", x::piece, 1);
        c.throwing("one piece", x::load, 4);
        x.drop();
        c.taken(x, "a:T", x::piece, ARGUMENT);
        c.taken(x, "b:T", x::piece, 1);
        c.throwing("ACA$T#", () -> x.build(0), 6);
    }

    @Boundary("take the place of all that are there")
    private static void loadTakesThePlaceOfOtherPieces(Checks c) {
        ReadMapper x = forged(1, "other:GG");
        c.throwing("GG#", x::load, 3);
        x.drop();
        c.taken(x, "other:T", x::piece, ARGUMENT);
        c.taken(x, "name0001:" + "T".repeat(58), x::piece, 1);
        c.taken(x, "name0002:T", x::piece, STATE);
    }

    @Boundary("(names and numbers of bases; the bases are those that the turned row tells)")
    private static void loadKnowsTheBasesOfEachPiece(Checks c) {
        ReadMapper x = forged(8, "p_1:AC", "longname:NGA", "z:C");
        c.throwing("AC$NGA$C#", x::load, 9);
        c.due("GA", mapped(x, "r:GA", 0), 1);
        c.due("its record", recordOf(x, 0), "r\t0\tlongname\t2\t37\t2M\t*\t0\t0\tGA\t*\tNM:i:0\tMD:Z:2");
        c.due("C", mapped(x, "r:C", 0), 3);
        c.due("in each piece", hitsOf(x), "0/2/0/0 1/2/1/0 2/1/0/0");
    }

    @Boundary("The rate is that of the image.")
    private static void loadTakesTheRate(Checks c) {
        for (int rate = 0; rate < 8; rate++) {
            ReadMapper x = small(rate);
            String before = allSteps(x, 7);
            x.store();
            x.drop();
            x.build(rate + 1);
            c.throwing("rate " + (rate + 1), x::load, 7);
            c.due("its steps", allSteps(x, 7), before);
        }
    }

    @Boundary("what store() would have made of some pieces with some rate")
    private static void loadAndStoreAgain(Checks c) {
        for (int rate = 0; rate < 8; rate++) {
            ReadMapper x = largest(rate);
            x.store();
            List<Integer> before = bytes(x);
            x.load();
            x.store();
            c.due("the same", bytes(x), before);
        }
    }

    @Boundary("what store() would have made of some pieces with some rate")
    private static void loadOfWhatWasSpoiltAndMended(Checks c) {
        ReadMapper x = smallStored();
        x.spoil(12, 7);
        c.throwing("spoilt", x::load, STATE);
        x.spoil(12, 7);
        c.throwing("mended", x::load, 7);
    }

    @Boundary("what store() would have made of some pieces with some rate")
    private static void loadOfImagesOfOtherPieces(Checks c) {
        loads(c, "as it is", SMALL, 7);
        loads(c, "another name", changed(NAME, '_'), 7);
        loads(c, "60 bases in one piece", forged(3, "a:" + "ACGTN".repeat(12)), 61);
        loads(c, "60 bases in five pieces", forged(8, "a:" + "A".repeat(56), "b:C", "c:G", "d:T", "e:N"), 65);
        loads(c, "a name of eight", forged(1, "abcdefgh:A"), 2);
    }

    // UnsupportedOperationException

    @Boundary("UnsupportedOperationException if the image has less than eight bytes")
    private static void loadOfNoImage(Checks c) {
        c.throwing("a new object", () -> new ReadMapper().load(), UNSUPPORTED);
        ReadMapper x = small(0);
        c.throwing("never stored", x::load, UNSUPPORTED);
        c.due("the index stays", turnedRow(x, 7), "[2, 2, 4, 3, 0, 2, 1]");
    }

    @Boundary("UnsupportedOperationException if the image has less than eight bytes")
    private static void loadOfEachLength(Checks c) {
        ReadMapper x = smallStored();
        for (int left = 25; left >= 0; left--) {
            x.cut();
            c.throwing(left + " bytes", x::load, left < 8 ? UNSUPPORTED : STATE);
        }
    }

    @Boundary("UnsupportedOperationException if the image has less than eight bytes")
    private static void loadOfSevenAndEightBytesWithASum(Checks c) {
        loads(c, "seven", List.of(70, 77, 1), UNSUPPORTED);
        loads(c, "eight", List.of(70, 77, 1, 0), STATE);
        loads(c, "eight", List.of(70, 77, 1, 1), STATE);
    }

    @Boundary("or its first three are not 70, 77, 1")
    private static void loadOfEachWrongHead(Checks c) {
        for (int b = 0; b < 3; b++) {
            ReadMapper x = smallStored();
            for (int bit = 1; bit < 256; bit <<= 1) {
                x.spoil(b, bit);
                c.throwing("byte " + b + ", bit " + bit, x::load, UNSUPPORTED);
                x.spoil(b, bit);
            }
            c.throwing("mended", x::load, 7);
        }
    }

    @Boundary("or its first three are not 70, 77, 1")
    private static void loadOfWrongHeadsWithTheRightSum(Checks c) {
        loads(c, "71", changed(0, 71), UNSUPPORTED);
        loads(c, "76", changed(1, 76), UNSUPPORTED);
        loads(c, "2", changed(2, 2), UNSUPPORTED);
        loads(c, "exchanged", changed(0, 77, 70), UNSUPPORTED);
    }

    @Boundary("(The one named first, if both hold.)")
    private static void loadWithBothFaults(Checks c) {
        ReadMapper x = smallStored();
        x.spoil(2, 3);
        x.spoil(3, 255);
        c.throwing("a wrong head and a wrong number", x::load, UNSUPPORTED);
        x.spoil(2, 3);
        c.throwing("a wrong number", x::load, STATE);
    }

    // IllegalStateException: the sum

    @Boundary("at last the SUM, four bytes, the highest first")
    private static void loadWithEachBitOfTheSumWrong(Checks c) {
        for (int b = 22; b < 26; b++) {
            ReadMapper x = smallStored();
            for (int bit = 1; bit < 256; bit <<= 1) {
                x.spoil(b, bit);
                c.throwing("byte " + b + ", bit " + bit, x::load, STATE);
                x.spoil(b, bit);
            }
        }
    }

    @Boundary("IllegalStateException if these bytes are not what store() would have made")
    private static void loadWithEachOtherBitWrong(Checks c) {
        for (int b = 3; b < 22; b++) {
            ReadMapper x = smallStored();
            for (int bit = 1; bit < 256; bit <<= 1) {
                x.spoil(b, bit);
                c.throwing("byte " + b + ", bit " + bit, x::load, STATE);
                x.spoil(b, bit);
            }
            c.throwing("mended", x::load, 7);
        }
    }

    // IllegalStateException: the sum is right, but the bytes before it are not

    @Boundary("PIECES are numbered 0, 1, .. as they are added, at most 5")
    private static void loadOfTooFewOrTooManyPieces(Checks c) {
        loads(c, "no piece", List.of(70, 77, 1, 0, 1, 0, 0), STATE);
        loads(c, "no piece and no place", List.of(70, 77, 1, 0, 1), STATE);
        loads(c, "five", forged(1, "a:A", "b:C", "c:G", "d:T", "e:N"), 10);
        loads(c, "six", forged(1, "a:A", "b:C", "c:G", "d:T", "e:N", "f:A"), STATE);
        loads(c, "255", changed(NUMBER_OF_PIECES, 255), STATE);
        loads(c, "one less than there are", changed(NUMBER_OF_PIECES, 1), STATE);
        loads(c, "one more than there are", changed(NUMBER_OF_PIECES, 3), STATE);
    }

    @Boundary("A NAME is 1 to 8 characters")
    private static void loadOfNamesTooShortOrTooLong(Checks c) {
        loads(c, "none", forged(1, ":A"), STATE);
        loads(c, "none of the second", forged(1, "a:A", ":A"), STATE);
        loads(c, "eight", forged(1, "a:A", "abcdefgh:A"), 4);
        loads(c, "nine", forged(1, "a:A", "abcdefghi:A"), STATE);
        loads(c, "beyond the image", changed(NAME_LENGTH, 255), STATE);
    }

    @Boundary("a .. z, A .. Z, 0 .. 9 and _")
    private static void loadOfNamesOfEachCharacter(Checks c) {
        String allowed = "abcdefghijklmnopqrstuvwxyzABCDEFGHIJKLMNOPQRSTUVWXYZ0123456789_";
        for (int code = 0; code < 256; code++) {
            boolean isThere = allowed.indexOf(code) >= 0 && code != 'b';
            loads(c, "code " + code, changed(NAME, code), isThere ? (Object) 7 : STATE);
        }
    }

    @Boundary("each has a name, no two the same")
    private static void loadOfTheSameNameTwice(Checks c) {
        loads(c, "a and a", changed(OTHER_NAME, 'a'), STATE);
        loads(c, "a and A", changed(OTHER_NAME, 'A'), 7);
        loads(c, "ab, a, ab", forged(2, "ab:A", "a:C", "ab:G"), STATE);
        loads(c, "ab, a, abc", forged(2, "ab:A", "a:C", "abc:G"), 6);
    }

    @Boundary("and one base or more, all together at most 60")
    private static void loadOfTooFewOrTooManyBases(Checks c) {
        loads(c, "none", forged(1, "a:"), STATE);
        loads(c, "none in the second", forged(1, "a:AC", "b:"), STATE);
        loads(c, "none in the first", forged(1, "a:", "b:AC"), STATE);
        loads(c, "60", forged(8, "a:" + "A".repeat(60)), 61);
        loads(c, "61", forged(8, "a:" + "A".repeat(61)), STATE);
        loads(c, "60 together", forged(8, "a:" + "A".repeat(30), "b:" + "C".repeat(30)), 62);
        loads(c, "61 together", forged(8, "a:" + "A".repeat(30), "b:" + "C".repeat(31)), STATE);
        loads(c, "255", changed(BASES, 255), STATE);
    }

    @Boundary("(names and numbers of bases; the bases are those that the turned row tells)")
    private static void loadOfWrongNumbersOfBases(Checks c) {
        loads(c, "exchanged", changed(BASES, 2, 1, 98, 3), STATE);
        loads(c, "one more", changed(BASES, 4), STATE);
        loads(c, "one less", changed(OTHER_BASES, 1), STATE);
        loads(c, "one piece over the mark", List.of(70, 77, 1, 1, 1, 97, 6, 2, 2, 2, 4, 3, 0, 2, 1, 6, 2, 0, 4), STATE);
    }

    @Boundary("with the rate 1 + the lowest three bits of rate")
    private static void loadOfEachRate(Checks c) {
        for (int rate = 1; rate <= 8; rate++) {
            loads(c, "rate " + rate, forged(rate, "a:ACA", "b:GA"), 7);
        }
        for (int rate : new int[] {9, 10, 16, 128, 255}) {
            loads(c, "rate " + rate, forged(rate, "a:ACA", "b:GA"), STATE);
        }
        loads(c, "rate 0", List.of(70, 77, 1, 2, 1, 97, 3, 1, 98, 2, 0, 2, 2, 4, 3, 0, 2, 1, 0), STATE);
        loads(c, "rate 0, all samples", changed(RATE, 0), STATE);
        loads(c, "another rate than that of the samples", changed(RATE, 1), STATE);
        loads(c, "another rate than that of the samples", changed(RATE, 3), STATE);
    }

    @Boundary("for each i in order turned(i)")
    private static void loadOfNoSymbols(Checks c) {
        loads(c, "symbol 7", changed(TURNED, 7), STATE);
        loads(c, "symbol 255", changed(TURNED + 6, 255), STATE);
        // In the row of one base, nothing but the symbol itself could be wrong.
        loads(c, "one T", List.of(70, 77, 1, 1, 1, 97, 1, 1, 6, 0, 1, 0), 2);
        for (int symbol : new int[] {7, 8, 127, 128, 255}) {
            loads(c, "one of symbol " + symbol, List.of(70, 77, 1, 1, 1, 97, 1, 1, symbol, 0, 1, 0), STATE);
        }
    }

    @Boundary("for each i in order turned(i)")
    private static void loadOfMarksTooFewOrTooMany(Checks c) {
        loads(c, "no #", changed(TURNED + 4, 2), STATE);
        loads(c, "two #", changed(TURNED, 0), STATE);
        loads(c, "no $", changed(TURNED + 6, 2), STATE);
        loads(c, "two $", changed(TURNED, 1), STATE);
        loads(c, "# alone", List.of(70, 77, 1, 1, 1, 97, 1, 1, 0, 0, 1, 0), STATE);
        loads(c, "A alone", List.of(70, 77, 1, 1, 1, 97, 1, 1, 2, 2, 1, 0), STATE);
        loads(c, "# and A exchanged", List.of(70, 77, 1, 1, 1, 97, 1, 1, 0, 2, 1, 0), STATE);
    }

    @Boundary("for each i in order turned(i)")
    private static void loadOfTurnedRowsOfNoRow(Checks c) {
        // The turned row of CA# is A C #; the others come back to # too early or tell another row.
        loads(c, "A C #", List.of(70, 77, 1, 1, 1, 97, 2, 3, 2, 3, 0, 0), 3);
        loads(c, "A # C", List.of(70, 77, 1, 1, 1, 97, 2, 3, 2, 0, 3, 0), STATE);
        loads(c, "# A C", List.of(70, 77, 1, 1, 1, 97, 2, 3, 0, 2, 3, 0), STATE);
        loads(c, "# C A", List.of(70, 77, 1, 1, 1, 97, 2, 3, 0, 3, 2, 0), STATE);
        loads(c, "C A #", List.of(70, 77, 1, 1, 1, 97, 2, 3, 3, 2, 0, 0), STATE);
        loads(c, "C # A, that is AC#", List.of(70, 77, 1, 1, 1, 97, 2, 3, 3, 0, 2, 0), 3);
    }

    @Boundary("for each i in order for which suffix(i) is a multiple of the rate, suffix(i)")
    private static void loadOfWrongSamples(Checks c) {
        for (int b = SAMPLES; b < SMALL.size(); b++) {
            for (int sample : new int[] {0, 1, 2, 3, 4, 5, 6, 7, 8, 254, 255}) {
                if (sample != SMALL.get(b)) {
                    loads(c, "byte " + b + " is " + sample, changed(b, sample), STATE);
                }
            }
        }
        List<Integer> sorted = new ArrayList<>(SMALL);
        Collections.sort(sorted.subList(SAMPLES, SMALL.size()));
        loads(c, "in another order", sorted, STATE);
    }

    @Boundary("for each i in order for which suffix(i) is a multiple of the rate, suffix(i)")
    private static void loadOfTooFewOrTooManySamples(Checks c) {
        List<Integer> bytes = new ArrayList<>(SMALL);
        bytes.add(0);
        loads(c, "one more", bytes, STATE);
        loads(c, "one less", SMALL.subList(0, SMALL.size() - 1), STATE);
        loads(c, "none", SMALL.subList(0, SAMPLES), STATE);
        loads(c, "nor the turned row's last", SMALL.subList(0, SAMPLES - 1), STATE);
        loads(c, "nor the turned row", SMALL.subList(0, TURNED), STATE);
        loads(c, "nor the rate", SMALL.subList(0, RATE), STATE);
    }

    @Boundary("IllegalStateException if these bytes are not what store() would have made")
    private static void loadOfMoreBytesThanTheImage(Checks c) {
        List<Integer> bytes = new ArrayList<>(Model.withSum(SMALL));
        loads(c, "an image and a sum behind its sum", bytes, STATE);
        bytes.addAll(SMALL);
        loads(c, "an image behind an image", bytes, STATE);
    }

    // What a load that throws leaves

    @Boundary("What throws changes nothing")
    private static void loadThatThrowsLeavesAReadyIndex(Checks c) {
        ReadMapper x = smallStored();
        found(x, "AC");
        mapped(x, "r:AC", 0);
        x.spoil(16, 1);
        String before = seen(x);
        c.throwing("load", x::load, STATE);
        c.due("all stays", seen(x), before);
    }

    @Boundary("What throws changes nothing")
    private static void loadThatThrowsLeavesALoadedIndex(Checks c) {
        ReadMapper x = smallStored();
        x.load();
        found(x, "AC");
        mapped(x, "r:AC", 0);
        x.spoil(BASES, 1);
        String before = seen(x);
        c.throwing("load", x::load, STATE);
        c.due("all stays", seen(x), before);
        x.drop();
        c.throwing("its pieces too", () -> x.build(0), 7);
    }

    @Boundary("What throws changes nothing")
    private static void loadThatThrowsLeavesAnEmptyIndex(Checks c) {
        ReadMapper x = stored(0, "a:A");
        x.drop();
        c.taken(x, "b:CG", x::piece, 1);
        x.spoil(8, 1);
        c.throwing("load", x::load, STATE);
        c.due("empty", x.drop(), false);
        c.taken(x, "b:T", x::piece, ARGUMENT);
        c.taken(x, "c:T", x::piece, 2);
        c.throwing("A$CG$T#", () -> x.build(0), 7);
        c.due("CG", found(x, "CG"), 1);
    }
}
