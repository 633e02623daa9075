/** The boundary cases of the text: how it is written (promise 2), and which calls take it. */
public final class TextBoundaryTest extends Mappers {
    private TextBoundaryTest() {
    }

    public static void main(String[] args) {
        Cases.run(TextBoundaryTest.class);
    }

    /** A row of Cs: what is found in it tells how many Cs the text had. */
    private static ReadMapper manyCs() {
        return built(0, "a:" + "C".repeat(60));
    }

    private static ReadMapper withText(int length) {
        ReadMapper x = manyCs();
        Checks.say(x, "C".repeat(length));
        return x;
    }

    private static long at(int position, int code) {
        return (long) code << 56 - 8 * position;
    }

    @Boundary("THE TEXT has at most 72 characters with codes 32 .. 126, at first none")
    private static void textAtFirstNone(Checks c) {
        c.throwing("no piece", () -> new ReadMapper().piece(), ARGUMENT);
        c.throwing("nothing to look for", () -> new ReadMapper().find(), ARGUMENT);
        c.throwing("no read", () -> new ReadMapper().map(0), ARGUMENT);
        ReadMapper x = new ReadMapper();
        c.taken(x, "a:A", x::piece, 0);
    }

    @Boundary("THE TEXT has at most 72 characters")
    private static void textOf72IsKeptWhole(Checks c) {
        ReadMapper x = withText(71);
        c.due("the last one", x.write('N'), true);
        c.throwing("it counts", x::find, ARGUMENT);
        ReadMapper y = withText(64);
        c.due("eight to the brim", y.write(Checks.packed("CCCCCCCC")), true);
        c.throwing("72 Cs", y::find, 0);
    }

    @Boundary("THE TEXT has at most 72 characters")
    private static void textOf73IsRefused(Checks c) {
        ReadMapper x = withText(72);
        c.due("one more", x.write('N'), false);
        c.throwing("it was not put down", x::find, 0);
        ReadMapper y = withText(65);
        c.due("eight, room for seven", y.write(Checks.packed("CCCCCCCC")), false);
        c.due("seven, room for seven", y.write(Checks.packed("CCCCCCC")), true);
    }

    @Boundary("or they are more than there is room for")
    private static void writeBeyondRoomAddsNothing(Checks c) {
        ReadMapper x = withText(71);
        c.due("two, room for one", x.write(Checks.packed("CN")), false);
        c.due("there still is room for one", x.write('C'), true);
        c.due("and no more", x.write('C'), false);
        c.throwing("72 Cs", x::find, 0);
    }

    @Boundary("they are more than there is room for")
    private static void writeCountsOnlyCharacters(Checks c) {
        ReadMapper x = withText(70);
        c.due("two and six zeros, room for two", x.write(at(0, 'C') | at(7, 'C')), true);
        c.throwing("72 Cs", x::find, 0);
    }

    @Boundary("but for those that are 0: true")
    private static void writeOfZerosIsTrue(Checks c) {
        ReadMapper x = manyCs();
        c.due("into an empty text", x.write(0), true);
        c.throwing("which stays empty", x::find, ARGUMENT);
        Checks.say(x, "C".repeat(60));
        c.due("into a text", x.write(0), true);
        c.throwing("which stays as it is", x::find, 1);
        Checks.say(x, "C".repeat(72));
        c.due("into a full text", x.write(0), true);
        c.throwing("which stays full", x::find, 0);
    }

    @Boundary("the codes of which are the eight bytes of w from the highest on, but for those that are 0")
    private static void writeTakesEachByte(Checks c) {
        ReadMapper x = manyCs();
        for (int position = 0; position < 8; position++) {
            c.due("write", x.write(at(position, 'C')), true);
            c.throwing("one C from byte " + position, x::find, 60);
        }
    }

    @Boundary("the eight bytes of w from the highest on")
    private static void writeGoesFromTheHighestByteOn(Checks c) {
        ReadMapper x = built(0, "a:ACGTTGAA");
        c.due("ACGTTGAA", x.write(0x4143475454474141L), true);
        c.throwing("in this order", x::find, 1);
        c.due("zeros between", x.write(at(1, 'A') | at(3, 'C') | at(6, 'G')), true);
        c.throwing("ACG", x::find, 1);
        c.due("AC", x.write(at(0, 'A') | at(7, 'C')), true);
        c.due("and GT", x.write(at(3, 'G') | at(4, 'T')), true);
        c.throwing("behind each other", x::find, 1);
    }

    @Boundary("False, changing nothing, if one of the others is not 32 .. 126")
    private static void writeOfEachCode(Checks c) {
        for (int code = 1; code < 256; code++) {
            ReadMapper x = new ReadMapper();
            c.due("code " + code, x.write(code), code >= 32 && code <= 126);
        }
    }

    @Boundary("if one of the others is not 32 .. 126")
    private static void writeLooksAtEachByte(Checks c) {
        for (int position = 0; position < 8; position++) {
            for (int code : new int[] {1, 9, 31, 127, 128, 160, 255}) {
                long w = Checks.packed("CCCCCCCC") & ~at(position, 255) | at(position, code);
                ReadMapper x = withText(59);
                c.due("code " + code + " as byte " + position, x.write(w), false);
                c.throwing("the text is 59 Cs", x::find, 2);
            }
        }
    }

    @Boundary("False, changing nothing")
    private static void writeRefusedTwice(Checks c) {
        ReadMapper x = withText(72);
        c.due("a wrong code and no room", x.write(31), false);
        c.due("a wrong code among many and no room", x.write(Checks.packed("CCC\tCCCC")), false);
        c.throwing("72 Cs", x::find, 0);
    }

    @Boundary("with codes 32 .. 126")
    private static void textKeepsBlanksAndTildes(Checks c) {
        ReadMapper x = manyCs();
        c.taken(x, "C ", x::find, ARGUMENT);
        c.taken(x, " C", x::find, ARGUMENT);
        c.taken(x, "C~", x::find, ARGUMENT);
        c.taken(x, "r:C:~", () -> x.map(0), 60);
    }

    @Boundary("a call that TAKES it uses it and makes it empty, whatever it answers or throws")
    private static void pieceThatAnswersTakesTheText(Checks c) {
        ReadMapper x = new ReadMapper();
        c.taken(x, "a:A", x::piece, 0);
        c.taken(x, "b:A", x::piece, 1);
    }

    @Boundary("makes it empty, whatever it answers or throws")
    private static void pieceThatIsWrongTakesTheText(Checks c) {
        ReadMapper x = new ReadMapper();
        c.taken(x, "a-:A", x::piece, ARGUMENT);
        c.taken(x, "a:A", x::piece, 0);
        c.taken(x, "a:A", x::piece, ARGUMENT);
        c.taken(x, "b:A", x::piece, 1);
    }

    @Boundary("makes it empty, whatever it answers or throws")
    private static void pieceThatIsRefusedTakesTheText(Checks c) {
        ReadMapper x = built(0, "a:A");
        c.taken(x, "b:C", x::piece, STATE);
        c.taken(x, "A", x::find, 1);
        ReadMapper many = new ReadMapper();
        c.taken(many, "a:" + "C".repeat(61), many::piece, STATE);
        c.taken(many, "a:C", many::piece, 0);
        ReadMapper five = withPieces("a:A", "b:A", "c:A", "d:A", "e:A");
        c.taken(five, "f:A", five::piece, STATE);
        c.throwing("nothing is left", five::piece, ARGUMENT);
    }

    @Boundary("makes it empty, whatever it answers or throws")
    private static void findThatAnswersTakesTheText(Checks c) {
        ReadMapper x = manyCs();
        c.taken(x, "C".repeat(60), x::find, 1);
        c.taken(x, "CC", x::find, 59);
        c.taken(x, "A", x::find, 0);
        c.taken(x, "CCC", x::find, 58);
    }

    @Boundary("makes it empty, whatever it answers or throws")
    private static void findThatThrowsTakesTheText(Checks c) {
        ReadMapper x = manyCs();
        c.taken(x, "N", x::find, ARGUMENT);
        c.taken(x, "C", x::find, 60);
        x.drop();
        c.taken(x, "C", x::find, STATE);
        x.build(0);
        c.taken(x, "C", x::find, 60);
    }

    @Boundary("makes it empty, whatever it answers or throws")
    private static void mapThatAnswersTakesTheText(Checks c) {
        ReadMapper x = manyCs();
        c.taken(x, "r:C", () -> x.map(0), 60);
        c.taken(x, "r:A", () -> x.map(0), 0);
        c.taken(x, "C", x::find, 60);
    }

    @Boundary("makes it empty, whatever it answers or throws")
    private static void mapThatThrowsTakesTheText(Checks c) {
        ReadMapper x = manyCs();
        c.taken(x, "r:", () -> x.map(0), ARGUMENT);
        c.taken(x, "C", x::find, 60);
        c.taken(x, "r:C", () -> x.map(4), ARGUMENT);
        c.taken(x, "C", x::find, 60);
        x.drop();
        c.taken(x, "r:C", () -> x.map(0), STATE);
        x.build(0);
        c.taken(x, "C", x::find, 60);
    }

    @Boundary("a call that TAKES it uses it and makes it empty")
    private static void textThatWasTakenLeavesAllItsRoom(Checks c) {
        ReadMapper x = withText(72);
        c.throwing("taken", x::find, 0);
        Checks.say(x, "C".repeat(72));
        c.due("full again", x.write('C'), false);
    }

    @Boundary("a call that TAKES it uses it and makes it empty")
    private static void otherCallsLeaveTheText(Checks c) {
        ReadMapper x = stored(0, "a:ACA");
        Checks.say(x, "A");
        x.first();
        x.suffix(0);
        x.steps(0);
        x.turned(0);
        x.occ(2, 1);
        x.hit(0, 0);
        x.record(0);
        x.letter(0, 0);
        x.image(0);
        x.load();
        x.drop();
        x.build(0);
        x.store();
        x.spoil(0, 1);
        c.throwing("a load that throws", x::load, UNSUPPORTED);
        x.cut();
        c.throwing("a build that throws", () -> x.build(0), STATE);
        c.taken(x, "C", x::find, 1);
        c.due("AC was looked for", x.first(), 2);
    }
}
