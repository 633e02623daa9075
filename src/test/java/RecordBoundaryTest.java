/** The boundary cases of records and of the quality of mapping, and of promises 14 and 15. */
public final class RecordBoundaryTest extends Mappers {
    private static final int FLAG = 1;
    private static final int PLACE = 3;
    private static final int QUALITY_OF_MAPPING = 4;
    private static final int NUMBER_OF_BASES = 5;
    private static final int QUALITIES = 10;
    private static final int MISMATCHES = 11;
    private static final int DIFFERENCES = 12;

    private RecordBoundaryTest() {
    }

    public static void main(String[] args) {
        Cases.run(RecordBoundaryTest.class);
    }

    private static ReadMapper mappedTo(String pieces, String read, int k) {
        ReadMapper x = built(0, pieces.split(" "));
        mapped(x, read, k);
        return x;
    }

    private static void quality(Checks c, String pieces, String read, int k, Object want) {
        ReadMapper x = mappedTo(pieces, read, k);
        c.due(read + " in " + pieces + " with " + k, field(x, 0, QUALITY_OF_MAPPING), want);
    }

    private static void differences(Checks c, String piece, String read, int k, String want) {
        c.due(read + " in " + piece, field(mappedTo("p:" + piece, "r:" + read, k), 0, DIFFERENCES), "MD:Z:" + want);
    }

    // Flags and fields

    @Boundary("the FLAG: 16 for strand 1 (else 0), and 256 more if the hit is not the best one")
    private static void flagsOfAllKinds(Checks c) {
        ReadMapper x = mappedTo("p:TTGAC", "r:AA", 1);
        c.due("hits", hitsOf(x), "0/1/1/0 0/2/1/1 0/3/0/1 0/4/0/1");
        c.due("best, strand 1", field(x, 0, FLAG), 16);
        c.due("not best, strand 1", field(x, 1, FLAG), 272);
        c.due("not best, strand 0", field(x, 2, FLAG), 256);
        mapped(x, "r:TT", 0);
        c.due("best, strand 0", field(x, 0, FLAG), 0);
    }

    @Boundary("the number of bases and M behind it (as 8M)")
    private static void numbersOfOneAndTwoDigits(Checks c) {
        ReadMapper x = mappedTo("p:" + "C".repeat(40) + "A".repeat(20), "r:" + "A".repeat(20), 0);
        c.due("20 bases", field(x, 0, NUMBER_OF_BASES), "20M");
        c.due("place 41", field(x, 0, PLACE), 41);
        mapped(x, "r:CA", 0);
        c.due("2 bases", field(x, 0, NUMBER_OF_BASES), "2M");
        c.due("place 40", field(x, 0, PLACE), 40);
        ReadMapper y = mappedTo("p:GGGGGGGGGA", "r:A", 0);
        c.due("1 base", field(y, 0, NUMBER_OF_BASES), "1M");
        c.due("place 10", field(y, 0, PLACE), 10);
        ReadMapper z = mappedTo("p:GGGGGGGGA", "r:A", 0);
        c.due("place 9", field(z, 0, PLACE), 9);
    }

    @Boundary("the qualities, for strand 1 the last one first, * if there are none")
    private static void qualitiesOfBothStrands(Checks c) {
        ReadMapper x = mappedTo("p:AACTT", "r:AA:12", 0);
        c.due("strand 0", field(x, 0, QUALITIES), "12");
        c.due("strand 1", field(x, 1, QUALITIES), "21");
        mapped(x, "r:AA", 0);
        c.due("none, strand 0", field(x, 0, QUALITIES), "*");
        c.due("none, strand 1", field(x, 1, QUALITIES), "*");
    }

    @Boundary("NM:i: and right behind it the number of mismatches")
    private static void mismatchesOfNoneToThree(Checks c) {
        for (int different = 0; different <= 3; different++) {
            ReadMapper x = mappedTo("p:GGGG", "r:" + "AAAA".substring(0, different) + "GGGG".substring(different), 3);
            c.due("mismatches", field(x, 0, MISMATCHES), "NM:i:" + different);
        }
    }

    @Boundary("NM:i: and right behind it the number of mismatches; MD:Z: and right behind it this")
    private static void longestRecord(Checks c) {
        ReadMapper x = mappedTo("longname:ACGTTGCAACCGGTTAACGA" + "C".repeat(20) + "TCGTTAACCGATTGTAAGGT",
                "readname:ACGTTGCAACCGGTTAACGA:ABCDEFGHIJKLMNOPQRST", 3);
        c.due("hits", hitsOf(x), "0/1/0/0 0/41/1/3");
        c.due("its length", x.record(1), 100);
        c.due("the record", recordOf(x, 1), "readname\t272\tlongname\t41\t37\t20M\t*\t0\t0\tTCGTTAACCGGTTGCAACGT\t"
                + "TSRQPONMLKJIHGFEDCBA\tNM:i:3\tMD:Z:10A3T2G2");
    }

    @Boundary("The read's name; the FLAG: 16 for strand 1 (else 0)")
    private static void shortestRecord(Checks c) {
        ReadMapper x = mappedTo("p:A", "r:A", 0);
        c.due("the record", recordOf(x, 0), "r\t0\tp\t1\t37\t1M\t*\t0\t0\tA\t*\tNM:i:0\tMD:Z:1");
    }

    // Differences

    @Boundary("at the end the number once more, also if it is 0 (as 5A0C3)")
    private static void differencesAsInTheDocument(Checks c) {
        differences(c, "GGGGGACGGG", "GGGGGTTGGG", 2, "5A0C3");
    }

    @Boundary("how many were the same since the last mismatch (or the beginning)")
    private static void differencesAtTheBeginning(Checks c) {
        differences(c, "ACGG", "CCGG", 1, "0A3");
        differences(c, "ACGG", "CAGG", 2, "0A0C2");
    }

    @Boundary("at the end the number once more, also if it is 0")
    private static void differencesAtTheEnd(Checks c) {
        differences(c, "ACGG", "ACGC", 1, "3G0");
        differences(c, "ACGG", "ACCC", 2, "2G0G0");
    }

    @Boundary("for each mismatch the piece's base there")
    private static void differencesEverywhere(Checks c) {
        differences(c, "A", "C", 1, "0A0");
        differences(c, "ACG", "CAA", 3, "0A0C0G0");
    }

    @Boundary("for each mismatch the piece's base there")
    private static void differencesAtN(Checks c) {
        differences(c, "NCG", "NCG", 1, "0N2");
        differences(c, "ANG", "ACG", 1, "1N1");
        differences(c, "ACT", "ANT", 1, "1C1");
    }

    @Boundary("how many were the same since the last mismatch (or the beginning)")
    private static void differencesOfNoneAndOfTwoDigits(Checks c) {
        String bases = "ACGGTTACCAGATTACAGCC";
        differences(c, "A", "A", 0, "1");
        differences(c, bases, bases, 0, "20");
        differences(c, bases, bases.substring(0, 19) + "A", 1, "19C0");
        differences(c, bases, "G" + bases.substring(1), 1, "0A19");
        differences(c, bases, bases.substring(0, 10) + "C" + bases.substring(11), 1, "10G9");
        differences(c, bases, bases.substring(0, 9) + "C" + bases.substring(10), 1, "9A10");
    }

    @Boundary("for strand 1 the complements, the last one first")
    private static void differencesOnStrandOne(Checks c) {
        differences(c, "AAAC", "TTTT", 1, "3C0");
        differences(c, "AAAC", "GTTG", 1, "0A3");
        differences(c, "AAAC", "CTTC", 2, "0A2C0");
    }

    // The quality of mapping

    @Boundary("is 0 if several hits have as few mismatches as the best one")
    private static void qualityOfSeveralBest(Checks c) {
        quality(c, "p:AGA", "r:A", 0, 0);
        quality(c, "p:AA q:AA", "r:AA", 0, 0);
        quality(c, "p:AT", "r:AT", 0, 0);
        quality(c, "p:AAC q:AAG", "r:AAT", 1, 0);
        quality(c, "p:AAC q:AAC r:AAG", "r:AAC", 1, 0);
    }

    @Boundary("else 37 if none of the hits (with at most k mismatches) has one mismatch more than it")
    private static void qualityOfAHitAlone(Checks c) {
        quality(c, "p:A", "r:A", 0, 37);
        quality(c, "p:AAAA", "r:CCCA", 3, 37);
    }

    @Boundary("(with at most k mismatches)")
    private static void qualityWhenOneMoreIsMoreThanK(Checks c) {
        quality(c, "p:AAC q:AAG", "r:AAC", 0, 37);
        quality(c, "p:AAC q:AAG", "r:AAC", 1, 20);
        quality(c, "p:AAC q:ACG", "r:AAG", 1, 0);
        quality(c, "p:AAAC q:AACC", "r:AAAA", 1, 37);
        quality(c, "p:AAAC q:AACC", "r:AAAA", 2, 20);
    }

    @Boundary("has one mismatch more than it")
    private static void qualityWhenOthersHaveTwoMore(Checks c) {
        quality(c, "p:AAAA q:AACC", "r:AAAA", 3, 37);
        quality(c, "p:AAAC q:ACCC", "r:AAAA", 3, 37);
        quality(c, "p:AAAC q:AACC r:ACCC", "r:AAAA", 3, 20);
    }

    @Boundary("else 23 less 3 for each of these, but 2 at least")
    private static void qualityOfOneMoreToTwoAtLeast(Checks c) {
        int[] due = {37, 20, 17, 14, 11, 8, 5, 2, 2, 2, 2};
        for (int more = 0; more < due.length; more++) {
            // AC has the last place alone, and AA, one mismatch more, all others.
            quality(c, "p:" + "A".repeat(more + 1) + "C", "r:AC", 1, due[more]);
        }
        quality(c, "p:" + "A".repeat(59) + "C", "r:AC", 1, 2);
    }

    @Boundary("The quality of mapping, one for all hits of the read")
    private static void qualityIsThatOfAllHits(Checks c) {
        ReadMapper x = mappedTo("p:AAC q:AAG r:ACG", "r:AAC", 2);
        c.due("hits", hitsOf(x), "0/1/0/0 1/1/0/1 2/1/0/2");
        for (int j = 0; j < 3; j++) {
            c.due("of record " + j, field(x, j, QUALITY_OF_MAPPING), 20);
        }
    }

    // Without hits

    @Boundary("Without hits: the name; 4; *; 0; 0; *; *; 0; 0; the bases; the qualities or *.")
    private static void recordWithoutHits(Checks c) {
        ReadMapper x = mappedTo("p:AAA", "read_1:ACN:~!5", 0);
        c.due("with qualities", recordOf(x, 0), "read_1\t4\t*\t0\t0\t*\t*\t0\t0\tACN\t~!5");
        mapped(x, "r:C", 0);
        c.due("without", recordOf(x, 0), "r\t4\t*\t0\t0\t*\t*\t0\t0\tC\t*");
        mapped(x, "longname:" + "ACGT".repeat(5), 3);
        c.due("longer than the piece", recordOf(x, 0),
                "longname\t4\t*\t0\t0\t*\t*\t0\t0\t" + "ACGT".repeat(5) + "\t*");
    }

    @Boundary("one for each hit, in order, or, without hits, just one")
    private static void recordsWithoutHitsAreOne(Checks c) {
        ReadMapper x = mappedTo("p:AAA", "r:A", 0);
        c.due("three hits, the third one", x.record(2) > 0, true);
        c.due("no fourth one", x.record(3), -1);
        mapped(x, "r:C", 0);
        c.due("no hits, one record", x.record(0), 21);
        c.due("no second one", x.record(1), -1);
        c.due("nor a letter of it", x.letter(1, 0), -1);
        c.due("no hit", x.hit(0, 0), -1);
    }

    // Promise 14

    @Boundary("NONE if there is no such record.")
    private static void recordThatIsNotThere(Checks c) {
        ReadMapper x = mappedTo("p:AAA", "r:A", 0);
        for (int j : new int[] {3, 4, -1, LOW, HIGH}) {
            c.due("record(" + j + ")", x.record(j), -1);
        }
        mapped(x, "r:C", 0);
        for (int j : new int[] {1, 2, -1, LOW, HIGH}) {
            c.due("without hits: record(" + j + ")", x.record(j), -1);
        }
    }

    @Boundary("RECORDS, of the read mapped latest")
    private static void recordOfNothingMapped(Checks c) {
        ReadMapper x = built(0, "p:A");
        c.due("built", x.record(0), -1);
        found(x, "A");
        c.due("what is looked for is not mapped", x.record(0), -1);
        c.taken(x, "r:", () -> x.map(0), ARGUMENT);
        c.due("no read was mapped", x.record(0), -1);
        mapped(x, "r:A", 0);
        c.due("mapped", x.record(0) > 0, true);
    }

    @Boundary("RECORDS, of the read mapped latest")
    private static void recordOfTheLatestRead(Checks c) {
        ReadMapper x = mappedTo("p:ACA", "longname:ACA:123", 0);
        mapped(x, "r:C", 0);
        c.due("the latest", recordOf(x, 0), "r\t0\tp\t2\t37\t1M\t*\t0\t0\tC\t*\tNM:i:0\tMD:Z:1");
        c.taken(x, "s:A", () -> x.map(4), ARGUMENT);
        c.due("one that throws is none", recordOf(x, 0), "r\t0\tp\t2\t37\t1M\t*\t0\t0\tC\t*\tNM:i:0\tMD:Z:1");
    }

    // Promise 15

    @Boundary("NONE if there is no such record or character.")
    private static void letterThatIsNotThere(Checks c) {
        ReadMapper x = mappedTo("p:AAA", "r:A", 0);
        int length = "r\t0\tp\t1\t0\t1M\t*\t0\t0\tA\t*\tNM:i:0\tMD:Z:1".length();
        c.due("the first one", x.letter(0, 0), (int) 'r');
        c.due("the last one", x.letter(0, length - 1), (int) '1');
        for (int at : new int[] {length, length + 1, 127, 128, 1000, -1, LOW, HIGH}) {
            c.due("letter(0, " + at + ")", x.letter(0, at), -1);
        }
    }

    @Boundary("NONE if there is no such record or character.")
    private static void letterOfNoSuchRecord(Checks c) {
        ReadMapper x = mappedTo("p:AAA", "r:A", 0);
        for (int j : new int[] {3, -1, LOW, HIGH}) {
            c.due("letter(" + j + ", 0)", x.letter(j, 0), -1);
        }
        c.due("no record, no character", x.letter(3, -1), -1);
        c.due("nothing mapped", built(0, "p:A").letter(0, 0), -1);
    }

    @Boundary("The code of character c of that record")
    private static void letterOfShorterRecords(Checks c) {
        ReadMapper x = mappedTo("p:CCCCCCCCCA", "r:A", 1);
        int first = "r\t256\tp\t1\t2\t1M\t*\t0\t0\tA\t*\tNM:i:1\tMD:Z:0C0".length();
        int best = "r\t0\tp\t10\t2\t1M\t*\t0\t0\tA\t*\tNM:i:0\tMD:Z:1".length();
        c.due("the last of the first one", x.letter(0, first - 1), (int) '0');
        c.due("that of the best one", x.letter(18, best - 1), (int) '1');
        c.due("nothing is left of the first one behind it", x.letter(18, best), -1);
        c.due("the first one again", x.letter(0, first - 2), (int) 'C');
    }

    @Boundary("a row of fields with a tab (code 9) between them")
    private static void letterOfTabs(Checks c) {
        ReadMapper x = mappedTo("p:A", "r:A", 0);
        int tabs = 0;
        for (int at = 0; at < x.record(0); at++) {
            tabs += x.letter(0, at) == 9 ? 1 : 0;
        }
        c.due("thirteen fields", tabs, 12);
        mapped(x, "r:C", 0);
        tabs = 0;
        for (int at = 0; at < x.record(0); at++) {
            tabs += x.letter(0, at) == 9 ? 1 : 0;
        }
        c.due("eleven fields", tabs, 10);
    }
}
