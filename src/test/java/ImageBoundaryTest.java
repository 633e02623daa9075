import java.util.List;

/** The boundary cases of the image, and of promises 16 to 19. */
public final class ImageBoundaryTest extends Mappers {
    private static final String SMALL_IMAGE =
            "70 77 1 2 1 97 3 1 98 2 2 2 2 4 3 0 2 1 6 2 0 4 88 49 70 85";
    private static final int SMALL_BYTES = 26;
    private static final int[] NO_BYTES = {SMALL_BYTES, SMALL_BYTES + 1, 188, 189, -1, LOW, HIGH};

    private ImageBoundaryTest() {
    }

    public static void main(String[] args) {
        Cases.run(ImageBoundaryTest.class);
    }

    private static ReadMapper smallStored() {
        return stored(1, "a:ACA", "b:GA");
    }

    // The image and promise 16

    @Boundary("IllegalStateException if it is empty.")
    private static void storeOfAnEmptyIndex(Checks c) {
        c.throwing("a new object", () -> new ReadMapper().store(), STATE);
        ReadMapper x = withPieces("a:A");
        c.throwing("pieces alone", x::store, STATE);
        c.due("no image", x.image(0), -1);
        x.build(0);
        c.throwing("built", x::store, 16);
        x.drop();
        c.throwing("dropped", x::store, STATE);
        c.due("the image stays", x.image(0), 70);
    }

    @Boundary("THE IMAGE is a row of bytes: 70, 77, 1; the number of pieces")
    private static void imageOfTheLeast(Checks c) {
        ReadMapper x = built(0, "a:A");
        c.throwing("rate 1", x::store, 16);
        c.due("its bytes", image(x), "70 77 1 1 1 97 1 1 2 0 1 0 183 127 196 53");
        ReadMapper y = built(7, "a:A");
        c.throwing("rate 8", y::store, 15);
        c.due("its bytes", image(y), "70 77 1 1 1 97 1 8 2 0 0 138 15 143 195");
    }

    @Boundary("THE IMAGE is a row of bytes: 70, 77, 1; the number of pieces")
    private static void imageOfTheMost(Checks c) {
        ReadMapper x = largest(0);
        c.throwing("bytes", x::store, 3 + 1 + 5 * 10 + 1 + 65 + 65 + 4);
        c.due("five pieces", x.image(3), 5);
        c.due("a name of eight", x.image(4), 8);
        c.due("56 bases", x.image(13), 56);
        c.due("the last byte is there", x.image(188) >= 0, true);
        c.due("and no more", x.image(189), -1);
        x.drop();
        x.build(7);
        c.throwing("places 0, 8, .. 64 alone", x::store, 3 + 1 + 5 * 10 + 1 + 65 + 9 + 4);
    }

    @Boundary("for each i in order for which suffix(i) is a multiple of the rate, suffix(i)")
    private static void imageWithEachRate(Checks c) {
        // The endings of ACA$GA# begin at 6, 3, 5, 2, 0, 1, 4.
        String[] samples = {"6, 3, 5, 2, 0, 1, 4", "6, 2, 0, 4", "6, 3, 0", "0, 4", "5, 0", "6, 0", "0", "0"};
        for (int rate = 1; rate <= 8; rate++) {
            ReadMapper x = small(rate - 1);
            int length = x.store();
            c.due("the rate", x.image(10), rate);
            c.due("samples of rate " + rate, bytes(x).subList(18, length - 4), "[" + samples[rate - 1] + "]");
        }
    }

    @Boundary("for each its name's length, the name, the number of its bases")
    private static void imageOfNamesOfOneAndEight(Checks c) {
        ReadMapper x = stored(0, "z_Z90aAb:ACG", "_:T");
        c.due("both", bytes(x).subList(3, 17), "[2, 8, 122, 95, 90, 57, 48, 97, 65, 98, 3, 1, 95, 1]");
    }

    @Boundary("the sum becomes 31 times itself and the byte more (it wraps)")
    private static void sumWraps(Checks c) {
        List<Integer> all = bytes(smallStored());
        c.due("88 49 70 85", all.subList(22, 26), "[88, 49, 70, 85]");
        for (int rate = 0; rate < 8; rate++) {
            ReadMapper x = largest(rate);
            int length = x.store();
            List<Integer> large = bytes(x);
            c.due("rate " + (rate + 1), large, Model.withSum(large.subList(0, length - 4)));
        }
    }

    @Boundary("the SUM, four bytes, the highest first")
    private static void sumHasBytesWithoutSign(Checks c) {
        boolean large = false;
        for (int rate = 0; rate < 8; rate++) {
            ReadMapper x = largest(rate);
            int length = x.store();
            for (int b = length - 4; b < length; b++) {
                c.due("a byte", x.image(b) >= 0 && x.image(b) <= 255, true);
                large |= x.image(b) > 127;
            }
        }
        c.due("also more than 127", large, true);
    }

    @Boundary("Stores the index as the image")
    private static void storeTakesThePlaceOfALongerImage(Checks c) {
        ReadMapper x = stored(0, "a:ACA", "b:GA");
        x.drop();
        x.build(1);
        c.throwing("shorter", x::store, SMALL_BYTES);
        c.due("nothing is left behind it", image(x), SMALL_IMAGE);
    }

    @Boundary("Stores the index as the image")
    private static void storeTakesThePlaceOfASpoiltImage(Checks c) {
        ReadMapper x = smallStored();
        x.spoil(0, 255);
        x.spoil(25, 255);
        c.throwing("spoilt", x::store, SMALL_BYTES);
        c.due("whole", image(x), SMALL_IMAGE);
        for (int left = SMALL_BYTES; left > 0; left--) {
            x.cut();
        }
        c.throwing("cut", x::store, SMALL_BYTES);
        c.due("whole", image(x), SMALL_IMAGE);
    }

    @Boundary("pieces and image stay")
    private static void imageStaysUntilItIsStoredAnew(Checks c) {
        ReadMapper x = smallStored();
        x.drop();
        c.due("dropped", image(x), SMALL_IMAGE);
        Checks.say(x, "c:T");
        x.piece();
        x.build(0);
        c.due("built", image(x), SMALL_IMAGE);
        x.load();
        c.due("loaded", image(x), SMALL_IMAGE);
    }

    @Boundary("Stores the index as the image")
    private static void storeForgetsNothing(Checks c) {
        ReadMapper x = small(0);
        found(x, "CA");
        mapped(x, "r:CA", 0);
        x.store();
        c.due("what was looked for", x.first(), 5);
        c.due("what was mapped", hitsOf(x), "0/2/0/0");
    }

    // Promise 17

    @Boundary("Byte b of the image; NONE if there is none.")
    private static void imageBeyondItsBytes(Checks c) {
        ReadMapper x = smallStored();
        c.due("the first", x.image(0), 70);
        c.due("the last", x.image(SMALL_BYTES - 1), 85);
        for (int b : NO_BYTES) {
            c.due("image(" + b + ")", x.image(b), -1);
        }
    }

    @Boundary("Byte b of the image; NONE if there is none.")
    private static void imageWhenThereIsNone(Checks c) {
        ReadMapper x = small(0);
        for (int b : new int[] {0, 1, -1, LOW, HIGH}) {
            c.due("never stored: image(" + b + ")", x.image(b), -1);
        }
    }

    @Boundary("Byte b of the image; NONE if there is none.")
    private static void imageOfAByte255(Checks c) {
        ReadMapper x = smallStored();
        x.spoil(2, 254);
        c.due("255 is not NONE", x.image(2), 255);
        x.spoil(2, 255);
        c.due("0 is not NONE", x.image(2), 0);
    }

    // Promise 18

    @Boundary("False if there is no such byte, or none of these bits is 1.")
    private static void spoilOfNoByte(Checks c) {
        ReadMapper x = smallStored();
        for (int b : NO_BYTES) {
            c.due("spoil(" + b + ", 1)", x.spoil(b, 1), false);
            c.due("spoil(" + b + ", 0)", x.spoil(b, 0), false);
        }
        c.due("nothing changed", image(x), SMALL_IMAGE);
    }

    @Boundary("False if there is no such byte")
    private static void spoilOfNoImage(Checks c) {
        c.due("a new object", new ReadMapper().spoil(0, 1), false);
        ReadMapper x = small(0);
        c.due("never stored", x.spoil(0, 255), false);
        c.due("still none", x.image(0), -1);
    }

    @Boundary("or none of these bits is 1")
    private static void spoilOfNoBits(Checks c) {
        ReadMapper x = smallStored();
        for (int bits : new int[] {0, 256, 512, -256, 0xFF00, 1 << 30, LOW}) {
            c.due("spoil(0, " + bits + ")", x.spoil(0, bits), false);
        }
        c.due("nothing changed", image(x), SMALL_IMAGE);
    }

    @Boundary("The bits of byte b of the image that are 1 among the lowest eight of bits are turned over: true.")
    private static void spoilOfEachBit(Checks c) {
        ReadMapper x = smallStored();
        for (int bit = 1; bit <= 128; bit <<= 1) {
            c.due("spoil(0, " + bit + ")", x.spoil(0, bit), true);
            c.due("turned over", x.image(0), 70 ^ bit);
            c.due("once more", x.spoil(0, bit), true);
            c.due("turned back", x.image(0), 70);
        }
    }

    @Boundary("among the lowest eight of bits")
    private static void spoilOfHigherBits(Checks c) {
        int[][] kinds = {{-1, 255}, {HIGH, 255}, {257, 1}, {-255, 1}, {LOW + 128, 128}, {0x1FF, 255}, {-2, 254}};
        for (int[] kind : kinds) {
            ReadMapper x = smallStored();
            c.due("spoil(1, " + kind[0] + ")", x.spoil(1, kind[0]), true);
            c.due("the lowest eight", x.image(1), 77 ^ kind[1]);
        }
    }

    @Boundary("The bits of byte b of the image that are 1")
    private static void spoilOfTheFirstAndTheLastByte(Checks c) {
        ReadMapper x = smallStored();
        c.due("the first", x.spoil(0, 255), true);
        c.due("the last", x.spoil(SMALL_BYTES - 1, 255), true);
        c.due("the first", x.image(0), 70 ^ 255);
        c.due("the second stays", x.image(1), 77);
        c.due("the last but one stays", x.image(SMALL_BYTES - 2), 70);
        c.due("the last", x.image(SMALL_BYTES - 1), 85 ^ 255);
    }

    @Boundary("The bits of byte b of the image")
    private static void spoilLeavesTheIndex(Checks c) {
        ReadMapper x = smallStored();
        String before = turnedRow(x, 7) + suffixes(x, 7) + allSteps(x, 7);
        for (int b = 0; b < SMALL_BYTES; b++) {
            x.spoil(b, 255);
        }
        c.due("all stays", turnedRow(x, 7) + suffixes(x, 7) + allSteps(x, 7), before);
    }

    // Promise 19

    @Boundary("The image loses its last byte: true; false if it has none.")
    private static void cutToNothing(Checks c) {
        ReadMapper x = smallStored();
        for (int left = SMALL_BYTES - 1; left >= 0; left--) {
            c.due("cut", x.cut(), true);
            c.due("the last one is gone", x.image(left), -1);
            c.due("and can't be spoilt", x.spoil(left, 1), false);
            c.due("the one before is not", left == 0 || x.image(left - 1) >= 0, true);
        }
        c.due("no byte", x.cut(), false);
        c.due("and again", x.cut(), false);
        c.due("none", x.image(0), -1);
    }

    @Boundary("false if it has none")
    private static void cutOfNoImage(Checks c) {
        c.due("a new object", new ReadMapper().cut(), false);
        c.due("never stored", small(0).cut(), false);
    }

    @Boundary("The image loses its last byte")
    private static void cutLeavesTheIndex(Checks c) {
        ReadMapper x = smallStored();
        String before = turnedRow(x, 7) + suffixes(x, 7) + allSteps(x, 7);
        for (int left = SMALL_BYTES; left > 0; left--) {
            x.cut();
        }
        c.due("all stays", turnedRow(x, 7) + suffixes(x, 7) + allSteps(x, 7), before);
        c.throwing("and is stored again", x::store, SMALL_BYTES);
    }

    @Boundary("The image loses its last byte")
    private static void cutByteDoesNotComeBack(Checks c) {
        ReadMapper x = smallStored();
        x.cut();
        x.spoil(24, 255);
        x.spoil(24, 255);
        c.due("it is shorter", image(x) + " 85", SMALL_IMAGE);
    }
}
