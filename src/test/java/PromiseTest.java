import java.util.Arrays;
import java.util.function.Supplier;

/** Each promise of the document: ordinary inputs, its edges, and wrong inputs. */
public final class PromiseTest extends Mappers {
    private static final Checks CHECKS = new Checks();

    private PromiseTest() {
    }

    public static void main(String[] args) {
        newObject();
        newObjectBesideAnother();
        write();
        piece();
        pieceLimits();
        build();
        drop();
        suffix();
        steps();
        turned();
        occ();
        find();
        first();
        map();
        mapWrong();
        hit();
        record();
        recordWithoutHits();
        qualityOfMapping();
        letter();
        store();
        image();
        spoil();
        cut();
        load();
        loadWrong();
        loadForged();
        CHECKS.end("PromiseTest");
    }

    private static void due(String what, Object got, Object want) {
        CHECKS.due(what, got, want);
    }

    private static void throwing(String what, Supplier<Object> call, Object want) {
        CHECKS.due(what, Checks.told(call), want);
    }

    private static void map(ReadMapper x, String read, int k, Object want) {
        CHECKS.taken(x, read, () -> x.map(k), want);
    }

    private static void newObject() {
        ReadMapper x = new ReadMapper();
        throwing("new: build", () -> x.build(0), STATE);
        due("new: drop", x.drop(), false);
        throwing("new: suffix", () -> x.suffix(0), STATE);
        due("new: steps", x.steps(0), -1);
        due("new: turned", x.turned(0), -1);
        due("new: occ", x.occ(0, 0), -1);
        throwing("new: find", x::find, ARGUMENT);
        due("new: first", x.first(), -1);
        throwing("new: piece of an empty text", x::piece, ARGUMENT);
        throwing("new: map of an empty text", () -> x.map(0), ARGUMENT);
        due("new: hit", x.hit(0, 0), -1);
        due("new: record", x.record(0), -1);
        due("new: letter", x.letter(0, 0), -1);
        throwing("new: store", x::store, STATE);
        due("new: image", x.image(0), -1);
        due("new: spoil", x.spoil(0, 1), false);
        due("new: cut", x.cut(), false);
        throwing("new: load", x::load, UNSUPPORTED);
    }

    private static void newObjectBesideAnother() {
        ReadMapper used = stored(1, "a:ACA", "b:GA");
        found(used, "CA");
        mapped(used, "r:CA:12", 0);
        String before = seen(used);
        Checks.say(used, "A");
        ReadMapper x = new ReadMapper();
        throwing("another's text is not here", x::find, ARGUMENT);
        throwing("nor are its pieces", () -> x.build(0), STATE);
        throwing("nor is its index", () -> x.suffix(0), STATE);
        due("nor what it looked for", x.first(), -1);
        due("nor its read", x.record(0), -1);
        due("nor its image", x.image(0), -1);
        CHECKS.taken(x, "a:TTTT", x::piece, 0);
        throwing("the row TTTT#", () -> x.build(7), 5);
        map(x, "s:TT", 0, 3);
        throwing("an image of its own", x::store, 18);
        throwing("which it loads", x::load, 5);
        throwing("the other's text stays", used::find, 3);
        found(used, "CA");
        due("and all else of it", seen(used), before);
    }

    private static void write() {
        ReadMapper x = new ReadMapper();
        due("write a piece with zeros inside", x.write(0x6100003A00410043L), true);
        throwing("the piece a:AC", x::piece, 0);
        x.build(0);
        due("AC is in it", found(x, "AC"), 1);
        for (long bad : new long[] {31L, 127L, 128L, 255L, 9L, 0x41L << 56 | 31L, 0x9F41L << 40, -1L}) {
            Checks.say(x, "A");
            due("write(" + bad + ")", x.write(bad), false);
            throwing("a refused write changes nothing", x::find, 1);
        }
        due("write of a space", x.write(32L), true);
        throwing("a space is no base", x::find, ARGUMENT);
        due("write of 126", x.write(126L), true);
        throwing("~ is no base", x::find, ARGUMENT);
        writeLimits();
    }

    private static void writeLimits() {
        ReadMapper x = built(0, "a:" + "C".repeat(60));
        Checks.say(x, "C".repeat(71));
        due("two characters, room for one", x.write(0x4343L), false);
        due("one character, room for one", x.write(0x43L << 32), true);
        due("one character, no room", x.write(0x43L), false);
        due("no characters, no room", x.write(0L), true);
        throwing("72 bases are looked for", x::find, 0);
        due("room again", x.write(Checks.packed("CCCCCCCC")), true);
        throwing("and the text is only these", x::find, 53);
    }

    private static void piece() {
        ReadMapper x = withPieces("aZ09_bcd:ACGTN", "b:A");
        String[] wrong = {":A", "c", "c:", "c::A", "c:A:", "c:A:A", "c:a", "c:AX", "c:A$", "c:A#", "c A:A",
            "c-:A", "123456789:A", "aZ09_bcd:A", "b:A", " :A", "c: A", "c:A ", "c:ACGTU"};
        for (String text : wrong) {
            CHECKS.taken(x, text, x::piece, ARGUMENT);
            throwing("the text was taken", x::piece, ARGUMENT);
        }
        CHECKS.taken(x, "B:A", x::piece, 2);
        x.build(0);
        CHECKS.taken(x, "c:A", x::piece, STATE);
        throwing("the text was taken", x::piece, ARGUMENT);
        CHECKS.taken(x, "b:A", x::piece, ARGUMENT);
        CHECKS.taken(x, "c!:A", x::piece, ARGUMENT);
        x.drop();
        CHECKS.taken(x, "c:A", x::piece, 3);
    }

    private static void pieceLimits() {
        ReadMapper five = withPieces("a:A", "b:A", "c:A", "d:A", "e:A");
        CHECKS.taken(five, "f:A", five::piece, STATE);
        CHECKS.taken(five, "e:A", five::piece, ARGUMENT);
        CHECKS.taken(five, "f:", five::piece, ARGUMENT);
        throwing("five pieces", () -> five.build(0), 10);
        ReadMapper full = withPieces("a:" + "A".repeat(30), "b:" + "C".repeat(29));
        CHECKS.taken(full, "c:AA", full::piece, STATE);
        CHECKS.taken(full, "c:A", full::piece, 2);
        CHECKS.taken(full, "d:A", full::piece, STATE);
        throwing("sixty bases", () -> full.build(0), 63);
        ReadMapper much = withPieces();
        CHECKS.taken(much, "a:" + "A".repeat(61), much::piece, STATE);
        CHECKS.taken(much, "abcdefgh:" + "A".repeat(63), much::piece, STATE);
        CHECKS.taken(much, "a:" + "A".repeat(60), much::piece, 0);
        throwing("one long piece", () -> much.build(0), 61);
    }

    private static void build() {
        ReadMapper x = withPieces("a:ACA", "b:GA");
        throwing("build", () -> x.build(1), 7);
        throwing("build twice", () -> x.build(1), STATE);
        due("the rate stays", x.steps(1), 1);
        for (int rate = 0; rate < 8; rate++) {
            for (int more : new int[] {0, 8, -8, 1 << 31}) {
                x.drop();
                throwing("build again", () -> x.build(0), 7);
                x.drop();
                x.build(rate + more);
                x.store();
                due("the rate of build(" + (rate + more) + ")", x.image(10), rate + 1);
            }
        }
    }

    private static void drop() {
        ReadMapper x = small(0);
        x.store();
        found(x, "A");
        map(x, "r:A", 0, 3);
        Checks.say(x, "c:");
        due("drop", x.drop(), true);
        due("drop twice", x.drop(), false);
        throwing("dropped: suffix", () -> x.suffix(0), STATE);
        due("dropped: steps", x.steps(0), -1);
        due("dropped: turned", x.turned(0), -1);
        due("dropped: occ", x.occ(2, 1), -1);
        due("dropped: first", x.first(), -1);
        due("dropped: hit", x.hit(0, 0), -1);
        due("dropped: record", x.record(0), -1);
        due("dropped: letter", x.letter(0, 0), -1);
        throwing("dropped: store", x::store, STATE);
        due("dropped: the image stays", x.image(0), 70);
        CHECKS.taken(x, "T", x::piece, 2); // the text, which stays too, began with c:
        throwing("dropped: the pieces stay", () -> x.build(0), 9);
        due("nothing was looked for", x.first(), -1);
        due("nothing is mapped", x.record(0), -1);
    }

    private static void suffix() {
        ReadMapper x = small(3);
        int[] places = {6, 3, 5, 2, 0, 1, 4};
        for (int i = 0; i < places.length; i++) {
            int ending = i;
            throwing("suffix(" + i + ")", () -> x.suffix(ending), places[i]);
        }
        for (int i : new int[] {7, 8, -1, LOW, HIGH}) {
            throwing("suffix(" + i + ")", () -> x.suffix(i), BOUNDS);
        }
        x.drop();
        throwing("suffix without index", () -> x.suffix(7), STATE);
        ReadMapper marks = built(0, "a:A", "b:A", "c:A");
        // A$A$A#: #, $A#, $A$A#, A#, A$A#, A$A$A#
        int[] sorted = {5, 3, 1, 4, 2, 0};
        for (int i = 0; i < sorted.length; i++) {
            int ending = i;
            throwing("marks: suffix(" + i + ")", () -> marks.suffix(ending), sorted[i]);
        }
        ReadMapper symbols = built(0, "a:TNGCA");
        // #, A#, CA#, GCA#, NGCA#, TNGCA#
        for (int i = 0; i < 6; i++) {
            int ending = i;
            throwing("symbols: suffix(" + i + ")", () -> symbols.suffix(ending), 5 - i);
        }
    }

    private static void steps() {
        ReadMapper x = small(2);
        int[] steps = {0, 0, 2, 2, 0, 1, 1};
        for (int i = 0; i < steps.length; i++) {
            due("steps(" + i + ")", x.steps(i), steps[i]);
        }
        for (int i : new int[] {7, -1, LOW, HIGH}) {
            due("steps(" + i + ")", x.steps(i), -1);
        }
        ReadMapper each = small(0);
        ReadMapper few = small(7);
        for (int i = 0; i < 7; i++) {
            due("rate 1: steps(" + i + ")", each.steps(i), 0);
            due("rate 8: steps(" + i + ")", few.steps(i), few.suffix(i));
        }
    }

    private static void turned() {
        ReadMapper x = small(0);
        int[] symbols = {2, 2, 4, 3, 0, 2, 1};
        for (int i = 0; i < symbols.length; i++) {
            due("turned(" + i + ")", x.turned(i), symbols[i]);
        }
        for (int i : new int[] {7, -1, LOW, HIGH}) {
            due("turned(" + i + ")", x.turned(i), -1);
        }
        ReadMapper all = built(0, "a:TNGCA");
        int[] before = {2, 3, 4, 5, 6, 0};
        for (int i = 0; i < before.length; i++) {
            due("all: turned(" + i + ")", all.turned(i), before[i]);
        }
    }

    private static void occ() {
        ReadMapper x = small(0);
        int[] symbols = {2, 2, 4, 3, 0, 2, 1};
        for (int s = 0; s <= 6; s++) {
            int count = 0;
            for (int i = 0; i <= 7; i++) {
                due("occ(" + s + ", " + i + ")", x.occ(s, i), count);
                count += i < 7 && symbols[i] == s ? 1 : 0;
            }
        }
        int[][] wrong = {{-1, 0}, {7, 0}, {LOW, 1}, {HIGH, 1}, {2, -1}, {2, 8}, {2, LOW}, {2, HIGH}};
        for (int[] w : wrong) {
            due("occ(" + w[0] + ", " + w[1] + ")", x.occ(w[0], w[1]), -1);
        }
    }

    private static void find() {
        ReadMapper x = small(0);
        CHECKS.taken(x, "A", x::find, 3);
        CHECKS.taken(x, "ACA", x::find, 1);
        CHECKS.taken(x, "AC", x::find, 1);
        CHECKS.taken(x, "GA", x::find, 1);
        CHECKS.taken(x, "AG", x::find, 0);
        CHECKS.taken(x, "ACAG", x::find, 0);
        CHECKS.taken(x, "T", x::find, 0);
        CHECKS.taken(x, "GAA", x::find, 0);
        for (String text : new String[] {"", "N", "AN", "ANA", "a", "A$", "$", "#", "A#", "A:", " A", "A$G"}) {
            CHECKS.taken(x, text, x::find, ARGUMENT);
            throwing("the text was taken", x::find, ARGUMENT);
        }
        x.drop();
        CHECKS.taken(x, "A", x::find, STATE);
        throwing("the text was taken", x::find, ARGUMENT);
        CHECKS.taken(x, "N", x::find, ARGUMENT);
        ReadMapper twice = built(0, "a:ANACA", "b:ACACA");
        CHECKS.taken(twice, "ACA", twice::find, 3);
    }

    private static void first() {
        ReadMapper x = small(0);
        due("nothing was looked for", x.first(), -1);
        found(x, "A");
        due("first A", x.first(), 2);
        due("first A again", x.first(), 2);
        found(x, "AC");
        due("first AC", x.first(), 4);
        CHECKS.taken(x, "N", x::find, ARGUMENT);
        due("what throws changes nothing", x.first(), 4);
        found(x, "G");
        due("first G", x.first(), 6);
        found(x, "T");
        due("no T", x.first(), -1);
        found(x, "C");
        due("first C", x.first(), 5);
        map(x, "r:A", 0, 3);
        x.store();
        due("other calls leave it", x.first(), 5);
        x.load();
        due("loaded", x.first(), -1);
        found(x, "C");
        due("first C", x.first(), 5);
        x.drop();
        due("dropped", x.first(), -1);
        CHECKS.taken(x, "C", x::find, STATE);
        due("and still", x.first(), -1);
        x.build(0);
        due("built", x.first(), -1);
    }

    private static ReadMapper lone() {
        return built(0, "p1:ACGTACGA");
    }

    private static void map() {
        ReadMapper x = lone();
        map(x, "r1:ACGA:IJKL", 1, 3);
        map(x, "r1:ACGA:IJKL", 0, 1);
        map(x, "r1:ACGA", 2, 4);
        map(x, "r1:ACGA", 3, 6);
        map(x, "aZ09_bcd:A:~", 0, 4);
        map(x, "r:N", 0, 0);
        map(x, "r:N", 1, 16);
        map(x, "r:ACGTACGA", 0, 1);
        map(x, "r:ACGTACGAA", 3, 0);
        ReadMapper two = built(0, "a:ACG", "b:TNG");
        map(two, "r:GT", 0, 1);
        map(two, "r:CG", 0, 2);
        map(two, "r:NG", 0, 0);
        map(two, "r:NG", 1, 3);
        map(two, "r:ACGT", 3, 0);
        ReadMapper most = built(0, "a:" + "T".repeat(60));
        map(most, "r:A", 1, 120);
        map(most, "longname:" + "A".repeat(20) + ":" + "!".repeat(20), 0, 41);
    }

    private static void mapWrong() {
        ReadMapper x = lone();
        map(x, "r:ACGA", 1, 3);
        String[] wrong = {"", "r", "r:", ":A", "r::", "r:A:", "r:A:!!", "r:AC:!", "r:A::", "r:A: ", "r:A:!:!",
            "r:AC:!:", "r:AC::!", "r:a", "r:X", "r:A$", "r:#", "r s:A", "r-:A", "123456789:A", "r: A",
            "r:" + "A".repeat(21), "r:" + "A".repeat(21) + ":" + "!".repeat(21)};
        for (String text : wrong) {
            map(x, text, 0, ARGUMENT);
            throwing("the text was taken", () -> x.map(0), ARGUMENT);
        }
        for (int k : new int[] {-1, 4, LOW, HIGH}) {
            map(x, "r:A", k, ARGUMENT);
            throwing("the text was taken", () -> x.map(0), ARGUMENT);
        }
        due("what throws leaves the hits", x.hit(2, 1), 5);
        due("what throws leaves the read", recordOf(x, 2), "r\t0\tp1\t5\t17\t4M\t*\t0\t0\tACGA\t*\tNM:i:0\tMD:Z:4");
        x.drop();
        map(x, "r:A", 0, STATE);
        throwing("the text was taken", () -> x.map(0), ARGUMENT);
        map(x, "r:A", 4, ARGUMENT);
        map(x, "r:", 0, ARGUMENT);
    }

    private static void hitsAre(ReadMapper x, int[][] hits) {
        for (int j = 0; j < hits.length; j++) {
            for (int what = 0; what < 4; what++) {
                due("hit(" + j + ", " + what + ")", x.hit(j, what), hits[j][what]);
            }
        }
    }

    private static void hit() {
        ReadMapper some = lone();
        map(some, "r:ACGA", 2, 4);
        // Each hit: piece, place, strand, mismatches.
        hitsAre(some, new int[][] {{0, 1, 0, 1}, {0, 1, 1, 1}, {0, 5, 0, 0}, {0, 5, 1, 2}});
        ReadMapper x = built(0, "a:ACGT", "b:GG", "c:TACGTA");
        map(x, "r:ACG", 0, 4);
        hitsAre(x, new int[][] {{0, 1, 0, 0}, {0, 2, 1, 0}, {2, 2, 0, 0}, {2, 3, 1, 0}});
        int[][] wrong = {{4, 0}, {-1, 0}, {0, 4}, {0, -1}, {LOW, 0}, {HIGH, 0}, {0, LOW}, {0, HIGH}};
        for (int[] w : wrong) {
            due("hit(" + w[0] + ", " + w[1] + ")", x.hit(w[0], w[1]), -1);
        }
        map(x, "r:AT", 0, 0);
        due("no hits", x.hit(0, 0), -1);
        map(x, "r:ACGT", 0, 4);
        due("both strands of one place", "" + x.hit(0, 1) + x.hit(0, 2) + x.hit(1, 1) + x.hit(1, 2), "1011");
        x.drop();
        due("dropped", x.hit(0, 0), -1);
    }

    private static void record() {
        ReadMapper x = lone();
        map(x, "r1:ACGA:IJKL", 1, 3);
        String[] due = {
            "r1\t256\tp1\t1\t17\t4M\t*\t0\t0\tACGA\tIJKL\tNM:i:1\tMD:Z:3T0",
            "r1\t272\tp1\t1\t17\t4M\t*\t0\t0\tTCGT\tLKJI\tNM:i:1\tMD:Z:0A3",
            "r1\t0\tp1\t5\t17\t4M\t*\t0\t0\tACGA\tIJKL\tNM:i:0\tMD:Z:4",
        };
        for (int j = 0; j < 3; j++) {
            due("record(" + j + ")", x.record(j), due[j].length());
            due("record " + j, recordOf(x, j), due[j]);
        }
        for (int j : new int[] {3, -1, LOW, HIGH}) {
            due("record(" + j + ")", x.record(j), -1);
        }
        map(x, "r1:ACGA", 0, 1);
        due("alone", recordOf(x, 0), "r1\t0\tp1\t5\t37\t4M\t*\t0\t0\tACGA\t*\tNM:i:0\tMD:Z:4");
        ReadMapper n = built(0, "chr_1:GGGGGGGGGGACNGG");
        map(n, "a:ATNGG", 2, 1);
        due("N differs", recordOf(n, 0),
                "a\t0\tchr_1\t11\t37\t5M\t*\t0\t0\tATNGG\t*\tNM:i:2\tMD:Z:1C0N2");
        map(n, "a:CCNAT:abcde", 2, 1);
        due("turned", recordOf(n, 0),
                "a\t16\tchr_1\t11\t37\t5M\t*\t0\t0\tATNGG\tedcba\tNM:i:2\tMD:Z:1C0N2");
        longestRecord();
    }

    private static void longestRecord() {
        ReadMapper x = built(0, "longname:" + "A".repeat(20) + "CGAACGTNACGTACGTTGCA" + "C".repeat(20));
        map(x, "readname:TGCAACGTACGTAACGTTCG:ABCDEFGHIJKLMNOPQRST", 3, 1);
        due("long and turned", recordOf(x, 0), "readname\t16\tlongname\t21\t37\t20M\t*\t0\t0\t"
                + "CGAACGTTACGTACGTTGCA\tTSRQPONMLKJIHGFEDCBA\tNM:i:1\tMD:Z:7N12");
    }

    private static void recordWithoutHits() {
        ReadMapper x = lone();
        due("nothing mapped", x.record(0), -1);
        map(x, "r_2:GGGN", 0, 0);
        due("record", recordOf(x, 0), "r_2\t4\t*\t0\t0\t*\t*\t0\t0\tGGGN\t*");
        due("only one", x.record(1), -1);
        due("none before it", x.record(-1), -1);
        map(x, "r_3:GGCN:!~I5", 0, 0);
        due("record", recordOf(x, 0), "r_3\t4\t*\t0\t0\t*\t*\t0\t0\tGGCN\t!~I5");
        x.store();
        x.load();
        due("loaded: nothing mapped", x.record(0), -1);
    }

    private static void qualityOfMapping() {
        // Of a row of As and a C, AC has the last place, and AA, one mismatch more, all others.
        int[] qualities = {37, 20, 17, 14, 11, 8, 5, 2, 2, 2};
        for (int more = 0; more < qualities.length; more++) {
            ReadMapper x = built(0, "p:" + "A".repeat(more + 1) + "C");
            map(x, "r:AC", 1, more + 1);
            due("quality with " + more, field(x, more, 4), qualities[more]);
            due("of all hits", field(x, 0, 4), qualities[more]);
        }
        ReadMapper x = built(0, "p:ACAAC");
        map(x, "r:AC", 1, 3);
        due("several are best", field(x, 0, 4), 0);
        due("the first is the best", field(x, 0, 1), 0);
        due("the last is not", field(x, 2, 1), 256);
        ReadMapper gap = built(0, "p:AAAGGG");
        map(gap, "r:AAA", 2, 3);
        due("one more", field(gap, 0, 4), 20);
        ReadMapper far = built(0, "p:AAA", "q:AGG");
        map(far, "r:AAA", 2, 2);
        due("two more are none", field(far, 0, 4), 37);
    }

    private static void letter() {
        ReadMapper x = lone();
        map(x, "r1:ACGA:IJKL", 1, 3);
        String line = "r1\t272\tp1\t1\t17\t4M\t*\t0\t0\tTCGT\tLKJI\tNM:i:1\tMD:Z:0A3";
        for (int c = 0; c < line.length(); c++) {
            due("letter(1, " + c + ")", x.letter(1, c), (int) line.charAt(c));
        }
        int[][] wrong = {{1, line.length()}, {1, -1}, {1, LOW}, {1, HIGH}, {3, 0}, {-1, 0}, {LOW, 0}, {HIGH, 0}};
        for (int[] w : wrong) {
            due("letter(" + w[0] + ", " + w[1] + ")", x.letter(w[0], w[1]), -1);
        }
        due("another record", x.letter(0, 4), (int) '5');
        map(x, "z:A", 0, 4);
        due("another read", x.letter(0, 0), (int) 'z');
        x.drop();
        due("dropped", x.letter(0, 0), -1);
    }

    private static final String SMALL_IMAGE =
            "70 77 1 2 1 97 3 1 98 2 2 2 2 4 3 0 2 1 6 2 0 4 88 49 70 85";

    private static void store() {
        ReadMapper x = small(1);
        throwing("store", x::store, 26);
        due("the image", image(x), SMALL_IMAGE);
        x.drop();
        x.build(7);
        due("the image stays until it is stored anew", image(x), SMALL_IMAGE);
        throwing("store", x::store, 23);
        due("only place 0 is kept", x.image(18), 0);
        x.drop();
        throwing("store without index", x::store, STATE);
        due("what throws changes nothing", x.image(10), 8);
        throwing("the largest image", largest(0)::store, 4 + 50 + 1 + 65 + 65 + 4);
    }

    private static void image() {
        ReadMapper x = small(1);
        due("no image", x.image(0), -1);
        x.store();
        due("first byte", x.image(0), 70);
        due("last byte is there", x.image(25) >= 0, true);
        for (int b : new int[] {26, -1, LOW, HIGH}) {
            due("image(" + b + ")", x.image(b), -1);
        }
        x.spoil(4, 0x80);
        due("bytes are 0 .. 255", x.image(4), 129);
    }

    private static void spoil() {
        ReadMapper x = small(1);
        due("no image", x.spoil(0, 1), false);
        x.store();
        due("spoil", x.spoil(1, 0xF0), true);
        due("spoilt", x.image(1), 77 ^ 0xF0);
        due("back", x.spoil(1, -16), true);
        due("only the lowest eight bits", x.image(1), 77);
        due("no bits", x.spoil(1, 0), false);
        due("none of the lowest bits", x.spoil(1, 256), false);
        due("the last byte", x.spoil(25, 255), true);
        x.spoil(25, 255);
        for (int b : new int[] {26, -1, LOW, HIGH}) {
            due("spoil(" + b + ", 1)", x.spoil(b, 1), false);
        }
        due("nothing changed", image(x), SMALL_IMAGE);
        due("the index stays", x.turned(0), 2);
    }

    private static void cut() {
        ReadMapper x = small(1);
        due("no image", x.cut(), false);
        x.store();
        for (int left = 25; left >= 0; left--) {
            due("cut", x.cut(), true);
            due("gone", x.image(left), -1);
            due("spoil what is gone", x.spoil(left, 1), false);
            if (left > 0) {
                due("still there", x.image(left - 1) >= 0, true);
            }
        }
        due("nothing to cut", x.cut(), false);
        x.store();
        due("stored again", image(x), SMALL_IMAGE);
    }

    private static void load() {
        ReadMapper x = small(1);
        x.store();
        x.drop();
        CHECKS.taken(x, "c:T", x::piece, 2);
        throwing("load into an empty index", x::load, 7);
        due("its rate", x.steps(1), 1);
        due("its turned row", x.turned(6), 1);
        due("nothing looked for", x.first(), -1);
        found(x, "A");
        map(x, "r:AC", 0, 1);
        due("the pieces' names", field(x, 0, 2), "a");
        CHECKS.taken(x, "c:T", x::piece, STATE);
        throwing("load into a ready index", x::load, 7);
        due("nothing looked for", x.first(), -1);
        due("nothing mapped", x.hit(0, 0), -1);
        due("no record", x.record(0), -1);
        throwing("store again", x::store, 26);
        due("the same image", image(x), SMALL_IMAGE);
        x.drop();
        CHECKS.taken(x, "b:T", x::piece, ARGUMENT);
        CHECKS.taken(x, "c:T", x::piece, 2);
        throwing("pieces go on from those loaded", () -> x.build(0), 9);
        throwing("and are replaced again", x::load, 7);
        CHECKS.taken(x, "ACA", x::find, 1);
        CHECKS.taken(x, "T", x::find, 0);
        for (int rate = 0; rate < 8; rate++) {
            ReadMapper most = largest(rate);
            most.store();
            String before = image(most);
            throwing("a large one", most::load, 65);
            most.store();
            due("the same", image(most), before);
        }
    }

    private static void loadWrong() {
        for (int b = 0; b < 26; b++) {
            ReadMapper x = small(1);
            x.store();
            for (int bit = 1; bit < 256; bit <<= 1) {
                x.spoil(b, bit);
                throwing("byte " + b + " bit " + bit, x::load, b < 3 ? UNSUPPORTED : STATE);
                x.spoil(b, bit);
            }
            throwing("whole again", x::load, 7);
        }
        ReadMapper y = small(1);
        y.store();
        found(y, "AC");
        map(y, "r:AC", 0, 1);
        for (int left = 25; left >= 0; left--) {
            y.cut();
            throwing(left + " bytes", y::load, left < 8 ? UNSUPPORTED : STATE);
        }
        due("what throws leaves what was found", y.first(), 4);
        due("what throws leaves the hits", y.hit(0, 1), 1);
        due("what throws leaves the names", field(y, 0, 2), "a");
        due("what throws leaves the rate", y.steps(1), 1);
        due("what throws leaves the turned row", y.turned(2), 4);
        y.store();
        due("what throws leaves the pieces", image(y), SMALL_IMAGE);
        ReadMapper both = small(1);
        both.store();
        both.spoil(2, 3);
        both.spoil(3, 255);
        throwing("the one named first", both::load, UNSUPPORTED);
    }

    private static void loads(String what, Object want, int... bytes) {
        ReadMapper x = forged(Arrays.stream(bytes).boxed().toList());
        throwing(what, x::load, want);
        if (STATE.equals(want)) {
            due(what + ": the index stays", x.occ(2, 65), 13);
        }
    }

    private static void loadForged() {
        loads("right", 7, 70, 77, 1, 2, 1, 97, 3, 1, 98, 2, 2, 2, 2, 4, 3, 0, 2, 1, 6, 2, 0, 4);
        loads("other names", 7, 70, 77, 1, 2, 1, 95, 3, 1, 57, 2, 2, 2, 2, 4, 3, 0, 2, 1, 6, 2, 0, 4);
        loads("another rate", 7, 70, 77, 1, 2, 1, 97, 3, 1, 98, 2, 8, 2, 2, 4, 3, 0, 2, 1, 0);
        loads("rate 7", 7, 70, 77, 1, 2, 1, 97, 3, 1, 98, 2, 7, 2, 2, 4, 3, 0, 2, 1, 0);
        loads("rate 0", STATE, 70, 77, 1, 2, 1, 97, 3, 1, 98, 2, 0, 2, 2, 4, 3, 0, 2, 1, 0);
        loads("rate 9", STATE, 70, 77, 1, 2, 1, 97, 3, 1, 98, 2, 9, 2, 2, 4, 3, 0, 2, 1, 0);
        loads("a sample less", STATE, 70, 77, 1, 2, 1, 97, 3, 1, 98, 2, 2, 2, 2, 4, 3, 0, 2, 1, 6, 2, 0);
        loads("a sample more", STATE, 70, 77, 1, 2, 1, 97, 3, 1, 98, 2, 2, 2, 2, 4, 3, 0, 2, 1, 6, 2, 0, 4, 0);
        loads("samples exchanged", STATE, 70, 77, 1, 2, 1, 97, 3, 1, 98, 2, 2, 2, 2, 4, 3, 0, 2, 1, 6, 2, 4, 0);
        loads("the same name twice", STATE, 70, 77, 1, 2, 1, 97, 3, 1, 97, 2, 2, 2, 2, 4, 3, 0, 2, 1, 6, 2, 0, 4);
        loads("no name's character", STATE, 70, 77, 1, 2, 1, 97, 3, 1, 58, 2, 2, 2, 2, 4, 3, 0, 2, 1, 6, 2, 0, 4);
        loads("an empty name", STATE, 70, 77, 1, 2, 1, 97, 3, 0, 2, 2, 2, 2, 4, 3, 0, 2, 1, 6, 2, 0, 4);
        loads("lengths exchanged", STATE, 70, 77, 1, 2, 1, 97, 2, 1, 98, 3, 2, 2, 2, 4, 3, 0, 2, 1, 6, 2, 0, 4);
        loads("a piece without bases", STATE, 70, 77, 1, 2, 1, 97, 5, 1, 98, 0, 2, 2, 2, 4, 3, 0, 2, 1, 6, 2, 0, 4);
        loads("one piece with a mark", STATE, 70, 77, 1, 1, 1, 97, 6, 2, 2, 2, 4, 3, 0, 2, 1, 6, 2, 0, 4);
        loads("no pieces", STATE, 70, 77, 1, 0, 1, 0, 0, 0);
        loads("no pieces, nothing at all", STATE, 70, 77, 1, 0, 1);
        loads("one base", 2, 70, 77, 1, 1, 1, 97, 1, 1, 2, 0, 1, 0);
        loads("a symbol too great", STATE, 70, 77, 1, 1, 1, 97, 1, 1, 7, 0, 1, 0);
        loads("two ends", STATE, 70, 77, 1, 1, 1, 97, 1, 1, 0, 0, 1, 0);
        loads("no end", STATE, 70, 77, 1, 1, 1, 97, 1, 1, 2, 2, 1, 0);
        // Of CA#, the turned row is A C #; # C A would make two cycles.
        loads("CA", 3, 70, 77, 1, 1, 1, 97, 2, 3, 2, 3, 0, 0);
        loads("not one cycle", STATE, 70, 77, 1, 1, 1, 97, 2, 3, 0, 3, 2, 0);
        loads("cycles", STATE, 70, 77, 1, 1, 1, 97, 2, 3, 2, 0, 3, 0);
        loads("six pieces", STATE, 70, 77, 1, 6, 1, 97, 1, 1, 98, 1, 1, 99, 1, 1, 100, 1, 1, 101, 1, 1, 102, 1,
                8, 2, 2, 2, 2, 2, 2, 1, 1, 1, 1, 1, 0, 8, 0);
        loads("eight bytes", STATE, 70, 77, 1, 1);
        loads("seven bytes", UNSUPPORTED, 70, 77, 1);
        loads("a name of nine", STATE, 70, 77, 1, 1, 9, 97, 97, 97, 97, 97, 97, 97, 97, 97, 1, 1, 2, 0, 1, 0);
        loads("a name of eight", 2, 70, 77, 1, 1, 8, 97, 97, 97, 97, 97, 97, 97, 97, 1, 1, 2, 0, 1, 0);
        loads("too many bases", STATE, 70, 77, 1, 1, 1, 97, 255, 1, 2, 0, 1, 0);
    }
}
