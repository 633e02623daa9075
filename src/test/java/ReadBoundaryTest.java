/** The boundary cases of reads and hits, and of promises 12 and 13. */
public final class ReadBoundaryTest extends Mappers {
    private static final int FLAG = 1;
    private static final int BASES = 9;
    private static final int QUALITIES = 10;

    private ReadBoundaryTest() {
    }

    public static void main(String[] args) {
        Cases.run(ReadBoundaryTest.class);
    }

    private static void map(Checks c, ReadMapper x, String read, int k, Object want) {
        c.taken(x, read, () -> x.map(k), want);
    }

    /** One A between Gs: A is found there alone. */
    private static ReadMapper oneA() {
        return built(0, "p:GGAGG");
    }

    private static void isRead(Checks c, String text) {
        ReadMapper x = oneA();
        Checks.say(x, text);
        c.due("'" + text + "' is no read", Checks.told(() -> x.map(0)).equals(ARGUMENT), false);
    }

    private static void isNoRead(Checks c, String text) {
        map(c, oneA(), text, 0, ARGUMENT);
    }

    // Reads

    @Boundary("A NAME is 1 to 8 characters a .. z, A .. Z, 0 .. 9 and _.")
    private static void readNameOfEachCharacter(Checks c) {
        String allowed = "abcdefghijklmnopqrstuvwxyzABCDEFGHIJKLMNOPQRSTUVWXYZ0123456789_";
        for (char code = 32; code <= 126; code++) {
            Object want = allowed.indexOf(code) >= 0 ? (Object) 1 : ARGUMENT;
            map(c, oneA(), code + ":A", 0, want);
            map(c, oneA(), "r" + code + ":A", 0, want);
        }
    }

    @Boundary("A NAME is 1 to 8 characters")
    private static void readNameOfNoneToNine(Checks c) {
        isNoRead(c, ":A");
        isNoRead(c, ":");
        isNoRead(c, ":A:!");
        isRead(c, "r:A");
        isRead(c, "12345678:A");
        isNoRead(c, "123456789:A");
    }

    @Boundary("A READ is a name, a colon, 1 to 20 bases")
    private static void readNameMayBeThatOfAPiece(Checks c) {
        map(c, oneA(), "p:A", 0, 1);
    }

    @Boundary("1 to 20 bases")
    private static void readOfNoBases(Checks c) {
        isNoRead(c, "r");
        isNoRead(c, "r:");
        isNoRead(c, "r::");
        isNoRead(c, "r::!");
        c.throwing("nothing at all", () -> oneA().map(0), ARGUMENT);
    }

    @Boundary("1 to 20 bases")
    private static void readOf20And21Bases(Checks c) {
        ReadMapper x = built(0, "p:" + "A".repeat(60));
        map(c, x, "r:" + "A".repeat(20), 0, 41);
        c.due("all of them", field(x, 0, BASES), "A".repeat(20));
        map(c, x, "r:" + "A".repeat(21), 0, ARGUMENT);
        map(c, x, "r:" + "A".repeat(70), 0, ARGUMENT);
    }

    @Boundary("BASES are A, C, G, T and N.")
    private static void readOfEachBase(Checks c) {
        for (char code = 32; code <= 126; code++) {
            Object want = "ACGTN".indexOf(code) >= 0 ? (Object) 6 : ARGUMENT;
            map(c, built(0, "p:AAAA"), "r:A" + code, 3, want);
            map(c, built(0, "p:AAAA"), "r:" + code + "A", 3, want);
        }
    }

    @Boundary("and, perhaps, a colon and as many QUALITIES")
    private static void qualitiesAsManyAsBases(Checks c) {
        isRead(c, "r:ACG");
        isNoRead(c, "r:ACG:");
        isNoRead(c, "r:ACG:!!");
        isRead(c, "r:ACG:!!!");
        isNoRead(c, "r:ACG:!!!!");
        isNoRead(c, "r:A:");
    }

    @Boundary("as many QUALITIES")
    private static void qualitiesOf20And21(Checks c) {
        ReadMapper x = built(0, "p:" + "A".repeat(20));
        map(c, x, "12345678:" + "A".repeat(20) + ":" + "!".repeat(19) + "~", 0, 1);
        c.due("all of them", field(x, 0, QUALITIES), "!".repeat(19) + "~");
        map(c, x, "r:" + "A".repeat(20) + ":" + "!".repeat(21), 0, ARGUMENT);
        map(c, x, "r:" + "A".repeat(20) + ":" + "!".repeat(19), 0, ARGUMENT);
        map(c, x, "r:" + "A".repeat(21) + ":" + "!".repeat(21), 0, ARGUMENT);
    }

    @Boundary("characters 33 .. 126 but no colon")
    private static void qualityOfEachCharacter(Checks c) {
        for (char code = 33; code <= 126; code++) {
            if (code != ':') {
                ReadMapper x = oneA();
                map(c, x, "r:GA:!" + code, 0, 1);
                c.due("it is kept", field(x, 0, QUALITIES), "!" + code);
                map(c, x, "r:GA:" + code + "!", 0, 1);
            }
        }
        for (String wrong : new String[] {"! ", " !", "  ", "!:", ":!", "::"}) {
            isNoRead(c, "r:GA:" + wrong);
        }
    }

    // Hits

    @Boundary("A and T, C and G are each other's COMPLEMENT; that of N is N.")
    private static void complementsOfEachBase(Checks c) {
        ReadMapper x = built(0, "p:NACGT");
        map(c, x, "r:ACGTN", 1, 1);
        c.due("on strand 1", hitsOf(x), "0/1/1/1");
        c.due("turned", field(x, 0, BASES), "NACGT");
    }

    @Boundary("N differs from everything, also from N")
    private static void hitOfN(Checks c) {
        ReadMapper x = built(0, "p:N");
        map(c, x, "r:N", 0, 0);
        map(c, x, "r:N", 1, 2);
        c.due("one mismatch", hitsOf(x), "0/1/0/1 0/1/1/1");
        map(c, x, "r:A", 0, 0);
        map(c, x, "r:A", 1, 2);
        ReadMapper y = built(0, "p:A");
        map(c, y, "r:N", 0, 0);
        map(c, y, "r:N", 1, 2);
    }

    @Boundary("a place in it (from 1 on)")
    private static void hitAtTheFirstAndTheLastPlace(Checks c) {
        ReadMapper x = built(0, "p:A" + "G".repeat(58) + "A");
        map(c, x, "r:A", 0, 2);
        c.due("places 1 and 60", hitsOf(x), "0/1/0/0 0/60/0/0");
        ReadMapper y = built(0, "p:C", "q:A");
        map(c, y, "r:A", 0, 1);
        c.due("each piece begins with 1", hitsOf(y), "1/1/0/0");
    }

    @Boundary("as many as the read has, none beyond its end")
    private static void hitOfTheWholePiece(Checks c) {
        ReadMapper x = built(0, "p:ACC", "q:GGA");
        map(c, x, "r:ACC", 0, 1);
        c.due("piece 0", hitsOf(x), "0/1/0/0");
        map(c, x, "r:TCC", 0, 1);
        c.due("piece 1", hitsOf(x), "1/1/1/0");
    }

    @Boundary("as many as the read has, none beyond its end")
    private static void hitBeyondTheEndOfAPiece(Checks c) {
        ReadMapper x = built(0, "p:ACC", "q:GGA");
        map(c, x, "r:ACCG", 3, 0);
        map(c, x, "r:ACCNGGA", 3, 0);
        map(c, x, "r:CCA", 1, 0);
        map(c, x, "r:GAC", 1, 0);
        map(c, x, "r:" + "A".repeat(20), 3, 0);
    }

    @Boundary("differ in at most k places")
    private static void hitWithKAndOneMore(Checks c) {
        ReadMapper x = built(0, "p:AAAA");
        String[] reads = {"AAAA", "CAAA", "CCAA", "CCCA", "CCCC"};
        for (int different = 0; different <= 4; different++) {
            for (int k = 0; k <= 3; k++) {
                map(c, x, "r:" + reads[different], k, different <= k ? 1 : 0);
            }
        }
    }

    @Boundary("differ in at most k places")
    private static void hitOfReadsShorterThanK(Checks c) {
        ReadMapper x = built(0, "p:AC", "q:G");
        map(c, x, "r:A", 1, 6);
        c.due("every place and strand", hitsOf(x), "0/1/0/0 0/1/1/1 0/2/0/1 0/2/1/1 1/1/0/1 1/1/1/1");
        map(c, x, "r:A", 3, 6);
    }

    @Boundary("Hits are in the order of the piece, then of the place, then of the strand.")
    private static void hitsInTheirOrder(Checks c) {
        ReadMapper x = built(0, "z:ATT", "a:AT");
        map(c, x, "r:AT", 1, 6);
        c.due("both strands of each", hitsOf(x), "0/1/0/0 0/1/1/0 0/2/0/1 0/2/1/1 1/1/0/0 1/1/1/0");
    }

    @Boundary("The BEST hit is the one with the fewest mismatches, of several the first.")
    private static void bestOfSeveral(Checks c) {
        ReadMapper x = built(0, "p:CAAA");
        map(c, x, "r:AA", 1, 3);
        c.due("hits", hitsOf(x), "0/1/0/1 0/2/0/0 0/3/0/0");
        c.due("one mismatch more", field(x, 0, FLAG), 256);
        c.due("the best", field(x, 1, FLAG), 0);
        c.due("as good, but later", field(x, 2, FLAG), 256);
    }

    @Boundary("of several the first")
    private static void bestOfTwoStrands(Checks c) {
        ReadMapper x = built(0, "p:AT");
        map(c, x, "r:AT", 0, 2);
        c.due("strand 0 is the best", field(x, 0, FLAG), 0);
        c.due("strand 1 is not", field(x, 1, FLAG), 272);
    }

    @Boundary("The BEST hit is the one with the fewest mismatches, of several the first.")
    private static void bestOfTheLatestRead(Checks c) {
        ReadMapper x = built(0, "p:CCCA");
        map(c, x, "r:A", 1, 8);
        c.due("hit 6 is the best", field(x, 6, FLAG), 0);
        map(c, x, "r:C", 0, 3);
        c.due("hit 0 is the best", field(x, 0, FLAG), 0);
        map(c, x, "r:C", 1, 8);
        c.due("hit 0 is the best", field(x, 0, FLAG), 0);
        c.due("hit 6 is not", field(x, 6, FLAG), 256);
    }

    // Promise 12

    @Boundary("or k is not 0 .. 3")
    private static void mapWithEachK(Checks c) {
        ReadMapper x = oneA();
        for (int k : new int[] {-1, 4, 5, -2, 256, -256, LOW, HIGH}) {
            map(c, x, "r:A", k, ARGUMENT);
        }
        map(c, x, "r:A", 0, 1);
        map(c, x, "r:A", 3, 10);
    }

    @Boundary("IllegalStateException if the index is empty.")
    private static void mapInAnEmptyIndex(Checks c) {
        map(c, new ReadMapper(), "r:A", 0, STATE);
        ReadMapper x = withPieces("p:A");
        map(c, x, "r:A", 0, STATE);
        x.build(0);
        map(c, x, "r:A", 0, 1);
        x.drop();
        map(c, x, "r:A", 3, STATE);
        c.due("nothing is mapped", x.record(0), -1);
    }

    @Boundary("(The one named first, if both hold.)")
    private static void mapWrongInAnEmptyIndex(Checks c) {
        map(c, new ReadMapper(), "", 0, ARGUMENT);
        map(c, new ReadMapper(), "r:", 0, ARGUMENT);
        map(c, new ReadMapper(), "r:A", -1, ARGUMENT);
        map(c, new ReadMapper(), "r:A", 4, ARGUMENT);
        ReadMapper x = withPieces("p:A");
        map(c, x, "r:A", 4, ARGUMENT);
        map(c, x, "r:A:", 0, ARGUMENT);
    }

    @Boundary("how many hits")
    private static void mapOfNoneAndOfTheMost(Checks c) {
        map(c, oneA(), "r:T", 0, 1);
        map(c, oneA(), "r:N", 0, 0);
        ReadMapper x = built(0, "p:" + "A".repeat(60));
        map(c, x, "r:A", 1, 120);
        c.due("the last one", "" + x.hit(119, 0) + "/" + x.hit(119, 1) + "/" + x.hit(119, 2), "0/60/1");
        c.due("and no more", x.hit(120, 0), -1);
        c.due("its record", field(x, 119, FLAG), 272);
    }

    @Boundary("no read is mapped and nothing is looked for any more")
    private static void mapIsForgottenWhenLoaded(Checks c) {
        ReadMapper x = stored(0, "p:A");
        mapped(x, "r:A", 0);
        found(x, "A");
        x.load();
        c.due("hit", x.hit(0, 0), -1);
        c.due("record", x.record(0), -1);
        c.due("letter", x.letter(0, 0), -1);
        c.due("first", x.first(), -1);
    }

    // Promise 13

    @Boundary("NONE if there is no such hit or what.")
    private static void hitThatIsNotThere(Checks c) {
        ReadMapper x = oneA();
        map(c, x, "r:G", 0, 4);
        c.due("the last one", x.hit(3, 1), 5);
        for (int j : new int[] {4, 5, -1, LOW, HIGH}) {
            for (int what = 0; what < 4; what++) {
                c.due("hit(" + j + ", " + what + ")", x.hit(j, what), -1);
            }
        }
    }

    @Boundary("NONE if there is no such hit or what.")
    private static void hitOfNoSuchWhat(Checks c) {
        ReadMapper x = oneA();
        map(c, x, "r:G", 0, 4);
        for (int what : new int[] {4, 5, -1, LOW, HIGH}) {
            c.due("hit(0, " + what + ")", x.hit(0, what), -1);
        }
    }

    @Boundary("NONE if there is no such hit or what.")
    private static void hitWithoutHits(Checks c) {
        ReadMapper x = oneA();
        c.due("nothing mapped", x.hit(0, 0), -1);
        map(c, x, "r:G", 0, 4);
        map(c, x, "r:CA", 0, 0);
        for (int what = 0; what < 4; what++) {
            c.due("the hits before are gone: hit(0, " + what + ")", x.hit(0, what), -1);
        }
    }

    @Boundary("Of hit j of the read mapped latest")
    private static void hitOfTheLatestRead(Checks c) {
        ReadMapper x = oneA();
        map(c, x, "r:G", 0, 4);
        map(c, x, "r:A", 0, 1);
        c.due("one alone", hitsOf(x), "0/3/0/0");
        c.due("the others are gone", x.hit(1, 0), -1);
    }
}
