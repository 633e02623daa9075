/**
 * A mapper of short reads: pieces of bases are put into one row with sorted endings, reads are
 * found in it with few mismatches on both strands and written out as records, and the index can
 * be stored as bytes, spoilt, and loaded again.
 *
 * <p>Every array is made in a constructor and used again, so that no call makes an object.
 */
public final class ReadMapper {
    public static final int NONE = -1;

    private static final int MAX_TEXT = 72;
    private static final int MAX_NAME = 8;
    private static final int MAX_PIECES = 5;
    private static final int MAX_BASES = 60;
    private static final int MAX_PLACES = MAX_BASES + MAX_PIECES;
    private static final int MAX_RATE = 8;
    private static final int MAX_READ = 20;
    private static final int MAX_MISMATCHES = 3;
    private static final int MAX_HITS = 2 * MAX_BASES;
    private static final int MAX_RECORD = 128;

    private static final int[] IMAGE_HEAD = {70, 77, 1};
    private static final int LEAST_IMAGE = 8;
    // Head and number of pieces, the pieces, the rate, turned row and samples, the sum.
    private static final int MAX_IMAGE = 4 + MAX_PIECES * (MAX_NAME + 2) + 1 + 2 * MAX_PLACES + 4;

    private static final int END_MARK = 0;
    private static final int GAP_MARK = 1;
    private static final int SYMBOL_N = 5;
    private static final String SYMBOLS = "#$ACGNT";
    private static final int[] COMPLEMENTS = {0, 1, 6, 4, 3, 5, 2};

    private final Codes text = new Codes(MAX_TEXT);
    private final Codes takenName = new Codes(MAX_NAME);
    private final Codes takenBases = new Codes(MAX_TEXT);

    private Index index = new Index();
    // What load() reads is put together here, so that a spoilt image leaves the index alone.
    private Index spareIndex = new Index();
    private boolean ready;
    private int firstFound = NONE;

    private Read read = new Read();
    // What map() takes is put together here, so that a wrong text leaves the latest read alone.
    private Read spareRead = new Read();
    private boolean mapped;
    private final Hits hits = new Hits();
    private final RecordWriter writer = new RecordWriter();

    private final Codes imageBytes = new Codes(MAX_IMAGE);
    private final Codes dueBytes = new Codes(MAX_IMAGE);
    private final ImageReader imageReader = new ImageReader();

    public ReadMapper() {
    }

    public boolean write(long w) {
        int added = 0;
        for (int shift = 56; shift >= 0; shift -= 8) {
            int code = byteAt(w, shift);
            if (code != 0) {
                if (code < ' ' || code > '~') {
                    return false;
                }
                added++;
            }
        }
        if (added > text.room()) {
            return false;
        }
        for (int shift = 56; shift >= 0; shift -= 8) {
            int code = byteAt(w, shift);
            if (code != 0) {
                text.append(code);
            }
        }
        return true;
    }

    public int piece() throws IllegalArgumentException, IllegalStateException {
        int colon = text.next(':', 0);
        boolean isPiece = readName(text, 0, colon, takenName)
                && readBases(text, colon + 1, text.size(), takenBases);
        text.clear();
        if (!isPiece || index.pieces.hasName(takenName)) {
            throw new IllegalArgumentException();
        }
        if (ready || !index.pieces.hasRoom(takenBases.size())) {
            throw new IllegalStateException();
        }
        return index.pieces.add(takenName, takenBases);
    }

    public int build(int rate) throws IllegalStateException {
        if (ready || index.pieces.number() == 0) {
            throw new IllegalStateException();
        }
        index.arrange(1 + (rate & (MAX_RATE - 1)));
        ready = true;
        forgetQuestions();
        return index.places();
    }

    public boolean drop() {
        if (!ready) {
            return false;
        }
        ready = false;
        forgetQuestions();
        return true;
    }

    public int suffix(int i) throws IllegalStateException, IndexOutOfBoundsException {
        if (!ready) {
            throw new IllegalStateException();
        }
        if (!index.hasEnding(i)) {
            throw new IndexOutOfBoundsException();
        }
        return index.placeOf(i);
    }

    public int steps(int i) {
        return ready ? index.stepsTo(i) : NONE;
    }

    public int turned(int i) {
        return ready ? index.symbolBefore(i) : NONE;
    }

    public int occ(int s, int i) {
        if (!ready || s < 0 || s >= SYMBOLS.length() || i < 0 || i > index.places()) {
            return NONE;
        }
        return index.countBefore(s, i);
    }

    public int find() throws IllegalArgumentException, IllegalStateException {
        boolean isSought = readBases(text, 0, text.size(), takenBases)
                && takenBases.next(SYMBOL_N, 0) == takenBases.size();
        text.clear();
        if (!isSought) {
            throw new IllegalArgumentException();
        }
        if (!ready) {
            throw new IllegalStateException();
        }
        firstFound = index.leastWith(takenBases);
        return index.countWith(takenBases);
    }

    public int first() {
        return firstFound;
    }

    public int map(int k) throws IllegalArgumentException, IllegalStateException {
        boolean isRead = spareRead.parse(text);
        text.clear();
        if (!isRead || k < 0 || k > MAX_MISMATCHES) {
            throw new IllegalArgumentException();
        }
        if (!ready) {
            throw new IllegalStateException();
        }
        Read earlier = read;
        read = spareRead;
        spareRead = earlier;
        mapped = true;
        hits.collect(index.pieces, read, k);
        return hits.number();
    }

    public int hit(int j, int what) {
        return mapped ? hits.about(j, what) : NONE;
    }

    public int record(int j) {
        return writeRecord(j) ? writer.line.size() : NONE;
    }

    public int letter(int j, int c) {
        return writeRecord(j) ? writer.line.at(c) : NONE;
    }

    public int store() throws IllegalStateException {
        if (!ready) {
            throw new IllegalStateException();
        }
        index.describe(imageBytes);
        return imageBytes.size();
    }

    public int image(int b) {
        return imageBytes.at(b);
    }

    public boolean spoil(int b, int bits) {
        int old = imageBytes.at(b);
        int flips = bits & 255;
        if (old == NONE || flips == 0) {
            return false;
        }
        imageBytes.set(b, old ^ flips);
        return true;
    }

    public boolean cut() {
        if (imageBytes.size() == 0) {
            return false;
        }
        imageBytes.shorten();
        return true;
    }

    public int load() throws UnsupportedOperationException, IllegalStateException {
        if (imageBytes.size() < LEAST_IMAGE || !ImageReader.hasHead(imageBytes)) {
            throw new UnsupportedOperationException();
        }
        if (!isStoredIndex()) {
            throw new IllegalStateException();
        }
        Index earlier = index;
        index = spareIndex;
        spareIndex = earlier;
        ready = true;
        forgetQuestions();
        return index.places();
    }

    /**
     * Makes the spare index of the image. The image is right only if storing that index gives the
     * same bytes again: this judges the turned row, the samples, the sum and the length at once.
     */
    private boolean isStoredIndex() {
        if (!imageReader.rebuild(imageBytes, spareIndex)) {
            return false;
        }
        spareIndex.describe(dueBytes);
        return dueBytes.isSame(imageBytes);
    }

    private void forgetQuestions() {
        firstFound = NONE;
        mapped = false;
    }

    private boolean writeRecord(int j) {
        if (!mapped || j < 0 || j >= Math.max(1, hits.number())) {
            return false;
        }
        if (hits.number() == 0) {
            writer.writeUnmapped(read);
        } else {
            writer.writeHit(index.pieces, read, hits, j);
        }
        return true;
    }

    private static int byteAt(long w, int shift) {
        return (int) (w >>> shift) & 255;
    }

    private static boolean isNameCode(int code) {
        return code >= 'a' && code <= 'z' || code >= 'A' && code <= 'Z'
                || code >= '0' && code <= '9' || code == '_';
    }

    /** The symbol of a base, NONE for other characters, the marks' own ones too. */
    private static int symbolOf(int code) {
        for (int symbol = GAP_MARK + 1; symbol < SYMBOLS.length(); symbol++) {
            if (SYMBOLS.charAt(symbol) == code) {
                return symbol;
            }
        }
        return NONE;
    }

    private static boolean isMark(int symbol) {
        return symbol <= GAP_MARK;
    }

    private static boolean differ(int symbol, int other) {
        return symbol != other || symbol == SYMBOL_N;
    }

    private static boolean readName(Codes from, int begin, int end, Codes name) {
        name.clear();
        if (end <= begin || end - begin > MAX_NAME) {
            return false;
        }
        for (int i = begin; i < end; i++) {
            if (!isNameCode(from.at(i))) {
                return false;
            }
            name.append(from.at(i));
        }
        return true;
    }

    private static boolean readBases(Codes from, int begin, int end, Codes bases) {
        bases.clear();
        for (int i = begin; i < end; i++) {
            int symbol = symbolOf(from.at(i));
            if (symbol == NONE || bases.room() == 0) {
                return false;
            }
            bases.append(symbol);
        }
        return bases.size() > 0;
    }

    /** A row of numbers that has room for a fixed number of them. */
    private static final class Codes {
        private final int[] codes;
        private int length;

        Codes(int room) {
            codes = new int[room];
        }

        int size() {
            return length;
        }

        int room() {
            return codes.length - length;
        }

        int at(int i) {
            return i >= 0 && i < length ? codes[i] : NONE;
        }

        void set(int i, int code) {
            if (i >= 0 && i < length) {
                codes[i] = code;
            }
        }

        void append(int code) {
            if (length < codes.length) {
                codes[length] = code;
                length++;
            }
        }

        void shorten() {
            if (length > 0) {
                length--;
            }
        }

        void clear() {
            length = 0;
        }

        void copy(Codes other) {
            clear();
            for (int i = 0; i < other.length; i++) {
                append(other.codes[i]);
            }
        }

        boolean isSame(Codes other) {
            if (length != other.length) {
                return false;
            }
            for (int i = 0; i < length; i++) {
                if (codes[i] != other.codes[i]) {
                    return false;
                }
            }
            return true;
        }

        /** Where the code stands first from a place on; the row's length if it does not. */
        int next(int code, int begin) {
            for (int i = begin; i < length; i++) {
                if (at(i) == code) {
                    return i;
                }
            }
            return length;
        }
    }

    /** The pieces, and the row that they make: each has a mark behind it, the last one the end's. */
    private static final class Pieces {
        private final Codes[] names = new Codes[MAX_PIECES];
        private final int[] starts = new int[MAX_PIECES];
        private final int[] lengths = new int[MAX_PIECES];
        private final int[] row = new int[MAX_PLACES];
        private int number;
        private int places;

        Pieces() {
            for (int p = 0; p < MAX_PIECES; p++) {
                names[p] = new Codes(MAX_NAME);
            }
        }

        int number() {
            return number;
        }

        int lengthOf(int p) {
            return lengths[p];
        }

        Codes nameOf(int p) {
            return names[p];
        }

        int symbolAt(int p, int offset) {
            return row[starts[p] + offset];
        }

        void clear() {
            number = 0;
            places = 0;
        }

        boolean hasName(Codes name) {
            for (int p = 0; p < number; p++) {
                if (names[p].isSame(name)) {
                    return true;
                }
            }
            return false;
        }

        boolean hasRoom(int bases) {
            return number < MAX_PIECES && bases <= MAX_BASES - (places - number);
        }

        int add(Codes name, Codes bases) {
            int p = reserve(name, bases.size());
            for (int i = 0; i < bases.size(); i++) {
                settle(starts[p] + i, bases.at(i));
            }
            return p;
        }

        /** Adds a piece all of whose bases are N until they are settled; there must be room. */
        int reserve(Codes name, int bases) {
            int p = number;
            names[p].copy(name);
            starts[p] = places;
            lengths[p] = bases;
            if (places > 0) {
                row[places - 1] = GAP_MARK;
            }
            for (int i = 0; i < bases; i++) {
                row[places + i] = SYMBOL_N;
            }
            places += bases + 1;
            row[places - 1] = END_MARK;
            number++;
            return p;
        }

        /** False if the symbol can't be there: marks stand behind the pieces and nowhere else. */
        boolean settle(int place, int symbol) {
            if (isMark(symbol) || isMark(row[place])) {
                return symbol == row[place];
            }
            row[place] = symbol;
            return true;
        }

        /** How many bases differ; what is beyond the limit is not counted to the end. */
        int mismatches(int p, int offset, Codes bases, int limit) {
            int different = 0;
            for (int i = 0; i < bases.size() && different <= limit; i++) {
                if (differ(symbolAt(p, offset + i), bases.at(i))) {
                    different++;
                }
            }
            return different;
        }
    }

    /** The sorted endings of the row of its pieces. */
    private static final class Index {
        private final Pieces pieces = new Pieces();
        private final int[] suffixes = new int[MAX_PLACES];
        private final int[] turnedRow = new int[MAX_PLACES];
        private final int[] ranks = new int[MAX_PLACES + 1];
        private int rate = 1;

        int places() {
            return pieces.places;
        }

        boolean hasEnding(int i) {
            return i >= 0 && i < places();
        }

        int placeOf(int i) {
            return hasEnding(i) ? suffixes[i] : NONE;
        }

        int stepsTo(int i) {
            return hasEnding(i) ? suffixes[i] % rate : NONE;
        }

        int symbolBefore(int i) {
            return hasEnding(i) ? turnedRow[i] : NONE;
        }

        int countBefore(int symbol, int end) {
            int count = 0;
            for (int i = 0; i < end; i++) {
                if (turnedRow[i] == symbol) {
                    count++;
                }
            }
            return count;
        }

        void arrange(int chosenRate) {
            rate = chosenRate;
            ranks[places()] = NONE;
            for (int place = places() - 1; place >= 0; place--) {
                rankAmongLater(place);
            }
            for (int place = 0; place < places(); place++) {
                int i = ranks[place];
                suffixes[i] = place;
                turnedRow[i] = place == 0 ? END_MARK : pieces.row[place - 1];
            }
        }

        /**
         * Puts an ending among those that begin later: these have their ranks already, and so two
         * endings with the same first symbol are told apart by the ranks of what follows it.
         */
        private void rankAmongLater(int place) {
            int less = 0;
            for (int later = place + 1; later < places(); later++) {
                if (isLess(later, place)) {
                    less++;
                }
            }
            for (int later = place + 1; later < places(); later++) {
                if (ranks[later] >= less) {
                    ranks[later]++;
                }
            }
            ranks[place] = less;
        }

        private boolean isLess(int place, int other) {
            int symbol = pieces.row[place];
            int otherSymbol = pieces.row[other];
            if (symbol != otherSymbol) {
                return symbol < otherSymbol;
            }
            return ranks[place + 1] < ranks[other + 1];
        }

        private boolean beginsWith(int i, Codes sought) {
            int place = suffixes[i];
            if (sought.size() > places() - place) {
                return false;
            }
            for (int b = 0; b < sought.size(); b++) {
                if (pieces.row[place + b] != sought.at(b)) {
                    return false;
                }
            }
            return true;
        }

        int leastWith(Codes sought) {
            for (int i = 0; i < places(); i++) {
                if (beginsWith(i, sought)) {
                    return i;
                }
            }
            return NONE;
        }

        int countWith(Codes sought) {
            int count = 0;
            for (int i = 0; i < places(); i++) {
                if (beginsWith(i, sought)) {
                    count++;
                }
            }
            return count;
        }

        /**
         * Settles the bases of reserved pieces by walking the turned row back from the end. A row
         * that belongs to no pieces may still pass here: it shows when it is described again.
         */
        boolean settleRow() {
            int i = 0;
            for (int place = places() - 2; place >= 0; place--) {
                if (!pieces.settle(place, turnedRow[i])) {
                    return false;
                }
                i = endingBefore(i);
            }
            return true;
        }

        /** The ending that begins one place before ending i does. */
        private int endingBefore(int i) {
            int symbol = turnedRow[i];
            int less = 0;
            for (int other = 0; other < places(); other++) {
                if (turnedRow[other] < symbol || turnedRow[other] == symbol && other < i) {
                    less++;
                }
            }
            return less;
        }

        /** Writes the image of the index. */
        void describe(Codes bytes) {
            bytes.clear();
            for (int b = 0; b < IMAGE_HEAD.length; b++) {
                bytes.append(IMAGE_HEAD[b]);
            }
            describePieces(bytes);
            bytes.append(rate);
            for (int i = 0; i < places(); i++) {
                bytes.append(turnedRow[i]);
            }
            for (int i = 0; i < places(); i++) {
                if (stepsTo(i) == 0) {
                    bytes.append(suffixes[i]);
                }
            }
            appendSum(bytes);
        }

        private void describePieces(Codes bytes) {
            bytes.append(pieces.number);
            for (int p = 0; p < pieces.number; p++) {
                Codes name = pieces.names[p];
                bytes.append(name.size());
                for (int i = 0; i < name.size(); i++) {
                    bytes.append(name.at(i));
                }
                bytes.append(pieces.lengths[p]);
            }
        }

        private static void appendSum(Codes bytes) {
            int sum = 17;
            for (int b = 0; b < bytes.size(); b++) {
                sum = 31 * sum + bytes.at(b);
            }
            for (int shift = 24; shift >= 0; shift -= 8) {
                bytes.append(sum >>> shift & 255);
            }
        }
    }

    /** Goes over the bytes of an image and makes an index of them, if it can. */
    private static final class ImageReader {
        private final Codes name = new Codes(MAX_NAME);
        private int next;

        static boolean hasHead(Codes bytes) {
            for (int b = 0; b < IMAGE_HEAD.length; b++) {
                if (bytes.at(b) != IMAGE_HEAD[b]) {
                    return false;
                }
            }
            return true;
        }

        boolean rebuild(Codes bytes, Index index) {
            next = IMAGE_HEAD.length;
            if (!reservePieces(bytes, index.pieces)) {
                return false;
            }
            int rate = nextByte(bytes);
            if (rate < 1 || rate > MAX_RATE || !readTurnedRow(bytes, index) || !index.settleRow()) {
                return false;
            }
            index.arrange(rate);
            return true;
        }

        /** The byte that is due now; NONE, which is right nowhere, behind the last one. */
        private int nextByte(Codes bytes) {
            int found = bytes.at(next);
            next++;
            return found;
        }

        private boolean reservePieces(Codes bytes, Pieces pieces) {
            pieces.clear();
            int number = nextByte(bytes);
            if (number < 1 || number > MAX_PIECES) {
                return false;
            }
            for (int p = 0; p < number; p++) {
                if (!readNextName(bytes) || pieces.hasName(name)) {
                    return false;
                }
                int bases = nextByte(bytes);
                if (bases < 1 || !pieces.hasRoom(bases)) {
                    return false;
                }
                pieces.reserve(name, bases);
            }
            return true;
        }

        private boolean readNextName(Codes bytes) {
            int length = nextByte(bytes);
            int begin = next;
            next = begin + length;
            return readName(bytes, begin, next, name);
        }

        private boolean readTurnedRow(Codes bytes, Index index) {
            for (int i = 0; i < index.places(); i++) {
                int symbol = nextByte(bytes);
                if (symbol < 0 || symbol >= SYMBOLS.length()) {
                    return false;
                }
                index.turnedRow[i] = symbol;
            }
            return true;
        }
    }

    /** A read: its name, its bases as both strands have them, and perhaps qualities. */
    private static final class Read {
        private final Codes name = new Codes(MAX_NAME);
        private final Codes forward = new Codes(MAX_READ);
        private final Codes backward = new Codes(MAX_READ);
        private final Codes qualities = new Codes(MAX_READ);

        boolean parse(Codes text) {
            int colon = text.next(':', 0);
            int basesEnd = text.next(':', colon + 1);
            if (!readName(text, 0, colon, name) || !readBases(text, colon + 1, basesEnd, forward)) {
                return false;
            }
            turnBases();
            qualities.clear();
            return basesEnd == text.size() || readQualities(text, basesEnd + 1);
        }

        private void turnBases() {
            backward.clear();
            for (int i = forward.size() - 1; i >= 0; i--) {
                backward.append(COMPLEMENTS[forward.at(i)]);
            }
        }

        private boolean readQualities(Codes text, int begin) {
            if (text.size() - begin != forward.size()) {
                return false;
            }
            for (int i = begin; i < text.size(); i++) {
                int code = text.at(i);
                if (code <= ' ' || code == ':') {
                    return false;
                }
                qualities.append(code);
            }
            return true;
        }

        int length() {
            return forward.size();
        }

        Codes basesOn(int strand) {
            return strand == 0 ? forward : backward;
        }
    }

    /** The hits of the read mapped latest, in their order. */
    private static final class Hits {
        private final Codes pieceNumbers = new Codes(MAX_HITS);
        private final Codes placeNumbers = new Codes(MAX_HITS);
        private final Codes strands = new Codes(MAX_HITS);
        private final Codes mismatches = new Codes(MAX_HITS);
        private int best;
        private int quality;

        int number() {
            return pieceNumbers.size();
        }

        int about(int j, int what) {
            switch (what) {
                case 0:
                    return pieceNumbers.at(j);
                case 1:
                    return placeNumbers.at(j);
                case 2:
                    return strands.at(j);
                case 3:
                    return mismatches.at(j);
                default:
                    return NONE;
            }
        }

        void collect(Pieces pieces, Read read, int k) {
            pieceNumbers.clear();
            placeNumbers.clear();
            strands.clear();
            mismatches.clear();
            for (int p = 0; p < pieces.number(); p++) {
                for (int offset = 0; offset <= pieces.lengthOf(p) - read.length(); offset++) {
                    for (int strand = 0; strand <= 1; strand++) {
                        int different = pieces.mismatches(p, offset, read.basesOn(strand), k);
                        if (different <= k) {
                            add(p, offset + 1, strand, different);
                        }
                    }
                }
            }
            chooseBest();
            judgeQuality();
        }

        private void add(int p, int place, int strand, int different) {
            pieceNumbers.append(p);
            placeNumbers.append(place);
            strands.append(strand);
            mismatches.append(different);
        }

        private void chooseBest() {
            best = 0;
            for (int j = 1; j < number(); j++) {
                if (mismatches.at(j) < mismatches.at(best)) {
                    best = j;
                }
            }
        }

        private void judgeQuality() {
            int fewest = mismatches.at(best);
            int oneMore = countWith(fewest + 1);
            if (countWith(fewest) > 1) {
                quality = 0;
            } else if (oneMore == 0) {
                quality = 37;
            } else {
                quality = Math.max(2, 23 - 3 * oneMore);
            }
        }

        private int countWith(int different) {
            int count = 0;
            for (int j = 0; j < number(); j++) {
                if (mismatches.at(j) == different) {
                    count++;
                }
            }
            return count;
        }
    }

    /** Writes one record at a time. */
    private static final class RecordWriter {
        private static final char TAB = '\t';

        private final Codes line = new Codes(MAX_RECORD);

        void writeUnmapped(Read read) {
            line.clear();
            putCodes(read.name);
            putText("\t4\t*\t0\t0\t*\t*\t0\t0\t");
            putBasesAndQualities(read, 0);
        }

        void writeHit(Pieces pieces, Read read, Hits hits, int j) {
            int strand = hits.strands.at(j);
            line.clear();
            putCodes(read.name);
            line.append(TAB);
            putNumber(16 * strand + (j == hits.best ? 0 : 256));
            line.append(TAB);
            putCodes(pieces.nameOf(hits.pieceNumbers.at(j)));
            line.append(TAB);
            putNumber(hits.placeNumbers.at(j));
            line.append(TAB);
            putNumber(hits.quality);
            line.append(TAB);
            putNumber(read.length());
            putText("M\t*\t0\t0\t");
            putBasesAndQualities(read, strand);
            putText("\tNM:i:");
            putNumber(hits.mismatches.at(j));
            putText("\tMD:Z:");
            putDifferences(pieces, read.basesOn(strand), hits, j);
        }

        private void putBasesAndQualities(Read read, int strand) {
            Codes bases = read.basesOn(strand);
            for (int i = 0; i < bases.size(); i++) {
                line.append(SYMBOLS.charAt(bases.at(i)));
            }
            line.append(TAB);
            if (read.qualities.size() == 0) {
                line.append('*');
            } else if (strand == 0) {
                putCodes(read.qualities);
            } else {
                putCodesTurned(read.qualities);
            }
        }

        private void putDifferences(Pieces pieces, Codes bases, Hits hits, int j) {
            int same = 0;
            for (int i = 0; i < bases.size(); i++) {
                int there = pieces.symbolAt(hits.pieceNumbers.at(j), hits.placeNumbers.at(j) - 1 + i);
                if (differ(there, bases.at(i))) {
                    putNumber(same);
                    line.append(SYMBOLS.charAt(there));
                    same = 0;
                } else {
                    same++;
                }
            }
            putNumber(same);
        }

        private void putCodes(Codes codes) {
            for (int i = 0; i < codes.size(); i++) {
                line.append(codes.at(i));
            }
        }

        private void putCodesTurned(Codes codes) {
            for (int i = codes.size() - 1; i >= 0; i--) {
                line.append(codes.at(i));
            }
        }

        private void putText(String written) {
            for (int i = 0; i < written.length(); i++) {
                line.append(written.charAt(i));
            }
        }

        /** No number of a record has more than three digits. */
        private void putNumber(int number) {
            if (number >= 100) {
                line.append('0' + number / 100 % 10);
            }
            if (number >= 10) {
                line.append('0' + number / 10 % 10);
            }
            line.append('0' + number % 10);
        }
    }
}
