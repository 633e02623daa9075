import java.util.function.Supplier;

/** "What throws changes nothing", for each call that throws, and the number of calls. */
public final class ThrowBoundaryTest extends Mappers {
    private ThrowBoundaryTest() {
    }

    public static void main(String[] args) {
        Cases.run(ThrowBoundaryTest.class);
    }

    /** Ready, stored, with something looked for and a read mapped. */
    private static ReadMapper busy() {
        ReadMapper x = stored(2, "a:ACA", "b:GA");
        found(x, "CA");
        mapped(x, "r:CA:12", 0);
        return x;
    }

    private static ReadMapper dropped() {
        ReadMapper x = busy();
        x.drop();
        return x;
    }

    private static void leaves(Checks c, ReadMapper x, String text, Supplier<Object> call, String want) {
        String before = seen(x);
        c.taken(x, text, call, want);
        c.due("all stays", seen(x), before);
    }

    /** The object of the calls above: its pieces are still the two that it had, and it can be built. */
    private static void hasItsPieces(Checks c, ReadMapper x) {
        c.taken(x, "b:T", x::piece, ARGUMENT);
        c.throwing("ACA$GA#", () -> x.build(0), 7);
        c.due("its endings", suffixes(x, 7), "[6, 3, 5, 2, 0, 1, 4]");
    }

    @Boundary("What throws changes nothing (but the text, where it takes that).")
    private static void pieceThatIsWrong(Checks c) {
        ReadMapper x = busy();
        leaves(c, x, "a:A", x::piece, ARGUMENT);
        ReadMapper y = busy();
        leaves(c, y, "c", y::piece, ARGUMENT);
        ReadMapper z = dropped();
        leaves(c, z, "c:ACGX", z::piece, ARGUMENT);
        hasItsPieces(c, z);
    }

    @Boundary("What throws changes nothing (but the text, where it takes that).")
    private static void pieceWhileTheIndexIsReady(Checks c) {
        ReadMapper x = busy();
        leaves(c, x, "c:T", x::piece, STATE);
        x.drop();
        hasItsPieces(c, x);
    }

    @Boundary("What throws changes nothing (but the text, where it takes that).")
    private static void pieceOfTooManyBases(Checks c) {
        ReadMapper x = dropped();
        leaves(c, x, "c:" + "T".repeat(56), x::piece, STATE);
        hasItsPieces(c, x);
    }

    @Boundary("What throws changes nothing (but the text, where it takes that).")
    private static void pieceBehindFive(Checks c) {
        ReadMapper x = withPieces("a:A", "b:A", "c:A", "d:A", "e:A");
        c.taken(x, "f:T", x::piece, STATE);
        c.throwing("A$A$A$A$A#", () -> x.build(0), 10);
        c.due("no T", x.occ(6, 10), 0);
        c.due("five As", x.occ(2, 10), 5);
    }

    @Boundary("What throws changes nothing (but the text, where it takes that).")
    private static void buildWhenReady(Checks c) {
        ReadMapper x = busy();
        leaves(c, x, "", () -> x.build(0), STATE);
    }

    @Boundary("What throws changes nothing (but the text, where it takes that).")
    private static void suffixThatThrows(Checks c) {
        ReadMapper x = busy();
        leaves(c, x, "", () -> x.suffix(7), BOUNDS);
        ReadMapper y = dropped();
        leaves(c, y, "", () -> y.suffix(0), STATE);
        hasItsPieces(c, y);
    }

    @Boundary("What throws changes nothing (but the text, where it takes that).")
    private static void findThatThrows(Checks c) {
        ReadMapper x = busy();
        leaves(c, x, "AN", x::find, ARGUMENT);
        ReadMapper y = dropped();
        leaves(c, y, "A", y::find, STATE);
        hasItsPieces(c, y);
        c.due("nothing was looked for", y.first(), -1);
    }

    @Boundary("What throws changes nothing (but the text, where it takes that).")
    private static void mapThatIsWrong(Checks c) {
        ReadMapper x = busy();
        leaves(c, x, "other:GATTACA:1234", () -> x.map(0), ARGUMENT);
        ReadMapper y = busy();
        leaves(c, y, "other:G:~", () -> y.map(4), ARGUMENT);
    }

    @Boundary("What throws changes nothing (but the text, where it takes that).")
    private static void mapInAnEmptyIndex(Checks c) {
        ReadMapper x = dropped();
        leaves(c, x, "r:A", () -> x.map(0), STATE);
        hasItsPieces(c, x);
        c.due("nothing is mapped", x.record(0), -1);
    }

    @Boundary("What throws changes nothing (but the text, where it takes that).")
    private static void storeOfAnEmptyIndex(Checks c) {
        ReadMapper x = dropped();
        leaves(c, x, "", x::store, STATE);
        hasItsPieces(c, x);
    }

    @Boundary("What throws changes nothing (but the text, where it takes that).")
    private static void loadOfASpoiltImage(Checks c) {
        ReadMapper x = busy();
        x.spoil(0, 1);
        leaves(c, x, "", x::load, UNSUPPORTED);
        ReadMapper y = dropped();
        y.spoil(5, 1);
        leaves(c, y, "", y::load, STATE);
        hasItsPieces(c, y);
    }

    @Boundary("What throws changes nothing (but the text, where it takes that).")
    private static void textOfCallsThatThrowButDoNotTakeIt(Checks c) {
        ReadMapper x = busy();
        Checks.say(x, "A");
        c.throwing("build", () -> x.build(0), STATE);
        c.throwing("suffix", () -> x.suffix(7), BOUNDS);
        x.spoil(0, 1);
        c.throwing("load", x::load, UNSUPPORTED);
        x.spoil(0, 1);
        x.spoil(3, 1);
        c.throwing("load", x::load, STATE);
        x.drop();
        c.throwing("suffix", () -> x.suffix(0), STATE);
        c.throwing("store", x::store, STATE);
        x.build(0);
        c.taken(x, "C", x::find, 1);
    }

    @Boundary("An object is used for at most 512 calls after it has been made")
    private static void callsUpToTheLast(Checks c) {
        ReadMapper x = new ReadMapper();
        int calls = 0;
        for (int round = 0; calls < 504; round++) {
            long name = 'a' + round % 26;
            x.write(name << 24 | ':' << 16 | 'A' << 8 | 'C');
            Checks.told(x::piece);
            Checks.told(() -> x.build(0));
            x.write(Checks.packed("r:AC"));
            x.map(3);
            x.store();
            x.load();
            x.drop();
            calls += 8;
        }
        c.throwing("call 505", () -> x.build(3), 15);
        c.throwing("call 506", () -> x.suffix(0), 14);
        c.due("call 507", x.write(Checks.packed("AC")), true);
        c.throwing("call 508", x::find, 5);
        c.due("call 509", x.write(Checks.packed("r:AC")), true);
        c.throwing("call 510", () -> x.map(0), 5);
        c.due("call 511", x.record(4), "r\t256\te\t1\t0\t2M\t*\t0\t0\tAC\t*\tNM:i:0\tMD:Z:2".length());
        c.due("call 512", x.hit(4, 0), 4);
    }
}
