import java.util.ArrayList;
import java.util.Arrays;
import java.util.Collections;
import java.util.Comparator;
import java.util.List;
import java.util.regex.Matcher;
import java.util.regex.Pattern;

/** The document in its plainest form, with texts and lists, to compare the program with. */
final class Model {
    private static final String SYMBOLS = "#$ACGNT";
    private static final Pattern PIECE = Pattern.compile("([A-Za-z0-9_]{1,8}):([ACGTN]+)");
    private static final Pattern READ = Pattern.compile("([A-Za-z0-9_]{1,8}):([ACGTN]{1,20})(?::([!-9;-~]+))?");

    private String text = "";
    private List<String> names = new ArrayList<>();
    private List<String> bases = new ArrayList<>();
    private boolean ready;
    private int rate;
    private String sought;
    private List<int[]> hits;
    private List<String> records = List.of();
    List<Integer> image = List.of();

    boolean write(long w) {
        StringBuilder added = new StringBuilder();
        for (byte b : java.nio.ByteBuffer.allocate(8).putLong(w).array()) {
            if (b != 0) {
                added.append((char) (b & 255));
            }
        }
        String longer = text + added;
        if (!added.toString().matches("[ -~]*") || longer.length() > 72) {
            return false;
        }
        text = longer;
        return true;
    }

    private String take() {
        String taken = text;
        text = "";
        return taken;
    }

    int piece() {
        Matcher m = PIECE.matcher(take());
        if (!m.matches() || names.contains(m.group(1))) {
            throw new IllegalArgumentException();
        }
        if (ready || names.size() == 5 || String.join("", bases).length() + m.group(2).length() > 60) {
            throw new IllegalStateException();
        }
        names.add(m.group(1));
        bases.add(m.group(2));
        return names.size() - 1;
    }

    int build(int chosen) {
        if (ready || names.isEmpty()) {
            throw new IllegalStateException();
        }
        rate = 1 + Math.floorMod(chosen, 8);
        return beReady();
    }

    private int beReady() {
        ready = true;
        forget();
        return row().length();
    }

    private void forget() {
        sought = null;
        hits = null;
        records = List.of();
    }

    boolean drop() {
        boolean was = ready;
        ready = false;
        if (was) {
            forget();
        }
        return was;
    }

    private String row() {
        return String.join("$", bases) + "#";
    }

    /** The characters' own order is that of the symbols. */
    private static List<Integer> sorted(String row) {
        List<Integer> places = new ArrayList<>();
        for (int p = 0; p < row.length(); p++) {
            places.add(p);
        }
        places.sort(Comparator.comparing(row::substring));
        return places;
    }

    private boolean hasEnding(int i) {
        return ready && i >= 0 && i < row().length();
    }

    int suffix(int i) {
        if (!ready) {
            throw new IllegalStateException();
        }
        if (!hasEnding(i)) {
            throw new IndexOutOfBoundsException();
        }
        return sorted(row()).get(i);
    }

    int steps(int i) {
        if (!hasEnding(i)) {
            return -1;
        }
        int place = suffix(i);
        int steps = 0;
        while ((place - steps) % rate != 0) {
            steps++;
        }
        return steps;
    }

    int turned(int i) {
        if (!hasEnding(i)) {
            return -1;
        }
        int place = suffix(i);
        return place == 0 ? 0 : SYMBOLS.indexOf(row().charAt(place - 1));
    }

    int occ(int s, int i) {
        if (!ready || s < 0 || s > 6 || i < 0 || i > row().length()) {
            return -1;
        }
        List<Integer> before = new ArrayList<>();
        for (int e = 0; e < i; e++) {
            before.add(turned(e));
        }
        return Collections.frequency(before, s);
    }

    int find() {
        String taken = take();
        if (!taken.matches("[ACGT]+")) {
            throw new IllegalArgumentException();
        }
        if (!ready) {
            throw new IllegalStateException();
        }
        sought = taken;
        return (int) sorted(row()).stream().filter(p -> row().startsWith(taken, p)).count();
    }

    int first() {
        if (sought == null) {
            return -1;
        }
        List<Integer> places = sorted(row());
        for (int i = 0; i < places.size(); i++) {
            if (row().startsWith(sought, places.get(i))) {
                return i;
            }
        }
        return -1;
    }

    int map(int k) {
        Matcher m = READ.matcher(take());
        boolean isRead = m.matches() && (m.group(3) == null || m.group(3).length() == m.group(2).length());
        if (!isRead || k < 0 || k > 3) {
            throw new IllegalArgumentException();
        }
        if (!ready) {
            throw new IllegalStateException();
        }
        String there = m.group(2);
        String back = turnedText(there).replace('A', 't').replace('T', 'a').replace('C', 'g').replace('G', 'c')
                .toUpperCase();
        hits = new ArrayList<>();
        for (int p = 0; p < names.size(); p++) {
            for (int place = 1; place + there.length() - 1 <= bases.get(p).length(); place++) {
                addHit(p, place, 0, there, k);
                addHit(p, place, 1, back, k);
            }
        }
        writeRecords(m.group(1), new String[] {there, back}, m.group(3));
        return hits.size();
    }

    private static String turnedText(String s) {
        return new StringBuilder(s).reverse().toString();
    }

    private void addHit(int p, int place, int strand, String read, int k) {
        int different = differences(p, place, read).replaceAll("[0-9]", "").length();
        if (different <= k) {
            hits.add(new int[] {p, place, strand, different});
        }
    }

    private String differences(int p, int place, String read) {
        String marked = "";
        for (int i = 0; i < read.length(); i++) {
            char there = bases.get(p).charAt(place - 1 + i);
            marked += there == read.charAt(i) && there != 'N' ? "." : String.valueOf(there);
        }
        StringBuilder told = new StringBuilder();
        for (String same : marked.split("(?=[A-Z])|(?<=[A-Z])")) {
            boolean isBase = same.matches("[A-Z]");
            boolean numberDue = told.length() == 0 || Character.isLetter(told.charAt(told.length() - 1));
            told.append(isBase ? (numberDue ? "0" : "") + same : String.valueOf(same.length()));
        }
        return told + (Character.isLetter(told.charAt(told.length() - 1)) ? "0" : "");
    }

    private void writeRecords(String name, String[] read, String qualities) {
        records = new ArrayList<>();
        String shown = qualities == null ? "*" : qualities;
        if (hits.isEmpty()) {
            records.add(String.join("\t", name, "4", "*", "0", "0", "*", "*", "0", "0", read[0], shown));
            return;
        }
        int[] best = Collections.min(hits, Comparator.comparingInt((int[] h) -> h[3]));
        long asGood = hits.stream().filter(h -> h[3] == best[3]).count();
        long oneMore = hits.stream().filter(h -> h[3] == best[3] + 1).count();
        long quality = asGood > 1 ? 0 : oneMore == 0 ? 37 : Math.max(2, 23 - 3 * oneMore);
        boolean bestSeen = false;
        for (int[] h : hits) {
            boolean isBest = !bestSeen && h[3] == best[3];
            bestSeen |= isBest;
            int flag = (h[2] == 1 ? 16 : 0) + (isBest ? 0 : 256);
            records.add(String.join("\t", name, "" + flag, names.get(h[0]), "" + h[1], "" + quality,
                    read[0].length() + "M", "*", "0", "0", read[h[2]], h[2] == 1 ? turnedText(shown) : shown,
                    "NM:i:" + h[3], "MD:Z:" + differences(h[0], h[1], read[h[2]])));
        }
    }

    int hit(int j, int what) {
        return hits == null || j < 0 || j >= hits.size() || what < 0 || what > 3 ? -1 : hits.get(j)[what];
    }

    int record(int j) {
        return j < 0 || j >= records.size() ? -1 : records.get(j).length();
    }

    int letter(int j, int c) {
        return c < 0 || c >= record(j) ? -1 : records.get(j).charAt(c);
    }

    int store() {
        if (!ready) {
            throw new IllegalStateException();
        }
        image = imageOf(names, bases, rate);
        return image.size();
    }

    static List<Integer> imageOf(List<String> names, List<String> bases, int rate) {
        List<Integer> bytes = new ArrayList<>(List.of(70, 77, 1, names.size()));
        for (int p = 0; p < names.size(); p++) {
            bytes.add(names.get(p).length());
            names.get(p).chars().forEach(bytes::add);
            bytes.add(bases.get(p).length());
        }
        bytes.add(rate);
        String row = String.join("$", bases) + "#";
        List<Integer> places = sorted(row);
        for (int p : places) {
            bytes.add(SYMBOLS.indexOf(p == 0 ? '#' : row.charAt(p - 1)));
        }
        for (int p : places) {
            if (p % rate == 0) {
                bytes.add(p);
            }
        }
        return withSum(bytes);
    }

    static List<Integer> withSum(List<Integer> bytes) {
        List<Integer> all = new ArrayList<>(bytes);
        long sum = 17;
        for (int b : bytes) {
            sum = (31 * sum + b) % (1L << 32);
        }
        for (int part = 3; part >= 0; part--) {
            all.add((int) (sum / (1L << 8 * part) % 256));
        }
        return all;
    }

    int image(int b) {
        return b < 0 || b >= image.size() ? -1 : image.get(b);
    }

    boolean spoil(int b, int bits) {
        if (image(b) == -1 || bits % 256 == 0) {
            return false;
        }
        image.set(b, image.get(b) ^ Math.floorMod(bits, 256));
        return true;
    }

    boolean cut() {
        if (image.isEmpty()) {
            return false;
        }
        image.remove(image.size() - 1);
        return true;
    }

    int load() {
        if (image.size() < 8 || !image.subList(0, 3).equals(List.of(70, 77, 1))) {
            throw new UnsupportedOperationException();
        }
        if (!loadPieces()) {
            throw new IllegalStateException();
        }
        return beReady();
    }

    private boolean loadPieces() {
        List<String> loadedNames = new ArrayList<>();
        List<Integer> lengths = new ArrayList<>();
        int at = 4;
        for (int p = 0; p < image(3); p++) {
            int end = at + 1 + Math.max(0, image(at));
            StringBuilder name = new StringBuilder();
            for (int b = at + 1; b < end; b++) {
                name.append((char) Math.max(0, image(b)));
            }
            if (!name.toString().matches("[A-Za-z0-9_]{1,8}") || loadedNames.contains(name.toString())
                    || image(end) < 1) {
                return false;
            }
            loadedNames.add(name.toString());
            lengths.add(image(end));
            at = end + 1;
        }
        int all = lengths.stream().mapToInt(n -> n).sum();
        int places = all + lengths.size();
        if (lengths.isEmpty() || lengths.size() > 5 || all > 60 || image(at) < 1 || image(at) > 8
                || at + 1 + places > image.size()) {
            return false;
        }
        String row = unturned(image.subList(at + 1, at + 1 + places));
        if (!row.matches("[ACGNT]+([$][ACGNT]+)*#")) {
            return false;
        }
        List<String> loadedBases = new ArrayList<>(Arrays.asList(row.substring(0, places - 1).split("[$]")));
        if (loadedBases.size() != loadedNames.size() || !imageOf(loadedNames, loadedBases, image(at)).equals(image)) {
            return false;
        }
        names = loadedNames;
        bases = loadedBases;
        rate = image(at);
        return true;
    }

    /** Sorts the columns again and again: the line that ends with # is the row. */
    private static String unturned(List<Integer> turned) {
        String[] lines = new String[turned.size()];
        Arrays.fill(lines, "");
        for (int round = 0; round < lines.length; round++) {
            for (int i = 0; i < lines.length; i++) {
                int symbol = turned.get(i);
                if (symbol > 6) {
                    return "";
                }
                lines[i] = SYMBOLS.charAt(symbol) + lines[i];
            }
            Arrays.sort(lines);
        }
        return Arrays.stream(lines).filter(l -> l.endsWith("#")).findFirst().orElse("");
    }
}
