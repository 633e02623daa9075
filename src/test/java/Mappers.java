import java.util.ArrayList;
import java.util.Arrays;
import java.util.List;

/** Under the tests: objects that they begin with, and what can be seen of an object. */
abstract class Mappers {
    static final String ARGUMENT = "IllegalArgumentException";
    static final String STATE = "IllegalStateException";
    static final String BOUNDS = "IndexOutOfBoundsException";
    static final String UNSUPPORTED = "UnsupportedOperationException";
    static final int LOW = Integer.MIN_VALUE;
    static final int HIGH = Integer.MAX_VALUE;

    static ReadMapper withPieces(String... pieces) {
        ReadMapper x = new ReadMapper();
        for (int p = 0; p < pieces.length; p++) {
            Checks.say(x, pieces[p]);
            if (x.piece() != p) {
                throw new AssertionError("another number for piece " + p);
            }
        }
        return x;
    }

    static ReadMapper built(int rate, String... pieces) {
        ReadMapper x = withPieces(pieces);
        x.build(rate);
        return x;
    }

    static ReadMapper stored(int rate, String... pieces) {
        ReadMapper x = built(rate, pieces);
        x.store();
        return x;
    }

    static ReadMapper loaded(int rate, String... pieces) {
        ReadMapper x = stored(rate, pieces);
        x.load();
        return x;
    }

    /** The row ACA$GA#, whose endings were sorted by hand. */
    static ReadMapper small(int rate) {
        return built(rate, "a:ACA", "b:GA");
    }

    /** As many places, and as long an image, as there can be. */
    static ReadMapper largest(int rate) {
        return built(rate, "name0001:" + "ACGTN".repeat(11) + "A", "name0002:A", "name0003:C", "name0004:G",
                "name0005:T");
    }

    static int found(ReadMapper x, String bases) {
        Checks.say(x, bases);
        return x.find();
    }

    static int mapped(ReadMapper x, String read, int k) {
        Checks.say(x, read);
        return x.map(k);
    }

    static List<Integer> bytes(ReadMapper x) {
        List<Integer> all = new ArrayList<>();
        for (int b = x.image(0); b != ReadMapper.NONE && all.size() < 256; b = x.image(all.size())) {
            all.add(b);
        }
        return all;
    }

    static String image(ReadMapper x) {
        return bytes(x).toString().replaceAll("[\\[,\\]]", "");
    }

    static String recordOf(ReadMapper x, int j) {
        StringBuilder line = new StringBuilder();
        int length = x.record(j);
        for (int c = 0; c < length; c++) {
            line.append((char) x.letter(j, c));
        }
        return line.toString();
    }

    /** A field of a record, numbered from 0 on; it need not be there. */
    static String field(ReadMapper x, int j, int number) {
        String[] fields = recordOf(x, j).split("\t");
        return number < fields.length ? fields[number] : "none";
    }

    static String hitsOf(ReadMapper x) {
        List<String> all = new ArrayList<>();
        for (int j = 0; x.hit(j, 0) != ReadMapper.NONE && j < 256; j++) {
            all.add(x.hit(j, 0) + "/" + x.hit(j, 1) + "/" + x.hit(j, 2) + "/" + x.hit(j, 3));
        }
        return String.join(" ", all);
    }

    static String suffixes(ReadMapper x, int places) {
        int[] all = new int[places];
        Arrays.setAll(all, x::suffix);
        return Arrays.toString(all);
    }

    static String turnedRow(ReadMapper x, int places) {
        int[] all = new int[places];
        Arrays.setAll(all, x::turned);
        return Arrays.toString(all);
    }

    static String allSteps(ReadMapper x, int places) {
        int[] all = new int[places];
        Arrays.setAll(all, x::steps);
        return Arrays.toString(all);
    }

    /** All that can be seen without a change, but for the text; meant for small objects. */
    static String seen(ReadMapper x) {
        StringBuilder all = new StringBuilder("endings");
        for (int i = 0; i < 8; i++) {
            int ending = i;
            all.append(' ').append(Checks.told(() -> x.suffix(ending)));
            all.append('/').append(x.turned(i)).append('/').append(x.steps(i));
        }
        all.append(", first ").append(x.first());
        all.append(", hits ").append(hitsOf(x));
        for (int j = 0; x.record(j) != ReadMapper.NONE && j < 256; j++) {
            all.append(", record ").append(recordOf(x, j));
        }
        return all.append(", image ").append(image(x)).toString();
    }

    /** An image with the given bytes, and the right sum behind them, in a ready object. */
    static ReadMapper forged(List<Integer> bytes) {
        return withImage(Model.withSum(bytes));
    }

    /** The image of pieces that the program may refuse, in a ready object. */
    static ReadMapper forged(int rate, String... pieces) {
        List<String> names = new ArrayList<>();
        List<String> bases = new ArrayList<>();
        for (String piece : pieces) {
            int colon = piece.indexOf(':');
            names.add(piece.substring(0, colon));
            bases.add(piece.substring(colon + 1));
        }
        return withImage(Model.imageOf(names, bases, rate));
    }

    private static ReadMapper withImage(List<Integer> wanted) {
        ReadMapper x = largest(0);
        for (int length = x.store(); length > wanted.size(); length--) {
            x.cut();
        }
        for (int b = 0; b < wanted.size(); b++) {
            x.spoil(b, x.image(b) ^ wanted.get(b));
        }
        return x;
    }
}
