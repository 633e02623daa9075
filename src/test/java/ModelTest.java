import java.util.ArrayList;
import java.util.List;
import java.util.Random;
import java.util.function.Supplier;

/** Runs of calls whose every answer is compared with that of the plain model. */
public final class ModelTest {
    private static final int RUNS = 1500;
    private static final int CALLS = 512;
    private static final int[] ODD = {-1, Integer.MIN_VALUE, Integer.MAX_VALUE, 256, 1 << 16, -256};

    private final Checks checks;
    private final Random random;
    private final List<String> told = new ArrayList<>();
    private final String letters;
    private ReadMapper x = new ReadMapper();
    private Model model = new Model();
    private int calls;
    private boolean wrong;

    private ModelTest(Checks checks, long seed) {
        this.checks = checks;
        random = new Random(seed);
        letters = List.of("ACGTN", "ACGT", "AC", "AT", "AAAAAC").get(random.nextInt(5));
    }

    public static void main(String[] args) {
        Checks checks = new Checks();
        for (int run = 0; run < RUNS; run++) {
            new ModelTest(checks, run).go();
        }
        checks.end("ModelTest");
    }

    private void go() {
        while (calls < CALLS && !wrong) {
            act();
        }
        if (wrong) {
            System.out.println("the run: " + told);
        }
    }

    private void same(String call, Supplier<Object> program, Supplier<Object> plain) {
        if (calls == CALLS || wrong) {
            return;
        }
        calls++;
        String got = Checks.told(program);
        String want = Checks.told(plain);
        told.add(call + " " + got);
        checks.due("call " + calls + ", " + call, got, want);
        wrong = !got.equals(want);
    }

    private void act() {
        switch (random.nextInt(24)) {
            case 0, 1, 2 -> addPiece();
            case 3, 4 -> build();
            case 5 -> sometimesDrop();
            case 6 -> endings();
            case 7, 8 -> find();
            case 9, 10, 11, 12 -> map();
            case 13, 14, 15 -> records();
            case 16, 17 -> same("store", x::store, model::store);
            case 18 -> look();
            case 19 -> spoilAndLoad();
            case 20 -> same("load", x::load, model::load);
            case 21 -> forge();
            case 22 -> write(random.nextBoolean() ? random.nextLong() : random.nextInt(128));
            default -> sometimesCut();
        }
    }

    private int some(int bound) {
        return random.nextInt(12) == 0 ? ODD[random.nextInt(ODD.length)] : random.nextInt(bound + 2) - 1;
    }

    private void write(long w) {
        same("write(" + w + ")", () -> x.write(w), () -> model.write(w));
    }

    private void say(String text) {
        for (int from = 0; from < text.length(); from += 8) {
            write(Checks.packed(text.substring(from, Math.min(from + 8, text.length()))));
        }
    }

    private String bases(int most) {
        StringBuilder made = new StringBuilder();
        for (int n = random.nextInt(most + 1); n > 0; n--) {
            made.append(letters.charAt(random.nextInt(letters.length())));
        }
        return made.toString();
    }

    private String name() {
        return List.of("a", "b", "c", "d", "e", "longname", "_9Z", "toolongname", "a b", "").get(random.nextInt(10));
    }

    /** Now and then one character of a text is another one. */
    private String perhapsWrong(String text) {
        if (random.nextInt(8) != 0 || text.isEmpty()) {
            return text;
        }
        int at = random.nextInt(text.length());
        return text.substring(0, at) + (char) (32 + random.nextInt(95)) + text.substring(at + 1);
    }

    private void addPiece() {
        say(perhapsWrong(name() + ":" + bases(random.nextInt(4) == 0 ? 62 : 14)));
        same("piece", x::piece, model::piece);
    }

    private void build() {
        int rate = random.nextInt(40) - 20;
        same("build(" + rate + ")", () -> x.build(rate), () -> model.build(rate));
    }

    private void sometimesDrop() {
        if (random.nextInt(2) == 0) {
            same("drop", x::drop, model::drop);
        }
    }

    private void sometimesCut() {
        if (random.nextInt(4) == 0) {
            same("cut", x::cut, model::cut);
        }
    }

    private void endings() {
        int i = some(66);
        int s = some(7);
        same("suffix(" + i + ")", () -> x.suffix(i), () -> model.suffix(i));
        same("steps(" + i + ")", () -> x.steps(i), () -> model.steps(i));
        same("turned(" + i + ")", () -> x.turned(i), () -> model.turned(i));
        same("occ(" + s + ", " + i + ")", () -> x.occ(s, i), () -> model.occ(s, i));
    }

    private void find() {
        say(perhapsWrong(bases(random.nextBoolean() ? 3 : 6)));
        same("find", x::find, model::find);
        same("first", x::first, model::first);
    }

    private void map() {
        String read = bases(random.nextInt(3) == 0 ? 21 : 6);
        StringBuilder qualities = new StringBuilder();
        for (int i = 0; i < read.length(); i++) {
            qualities.append((char) (33 + random.nextInt(94)));
        }
        boolean bare = random.nextBoolean();
        say(perhapsWrong(name() + ":" + read + (bare ? "" : ":" + qualities.toString().replace(':', ';'))));
        int k = random.nextInt(20) == 0 ? some(4) : random.nextInt(4);
        same("map(" + k + ")", () -> x.map(k), () -> model.map(k));
        records();
    }

    private void records() {
        same("first", x::first, model::first);
        int j = random.nextBoolean() ? 0 : some(12);
        int what = some(4);
        same("hit(" + j + ", " + what + ")", () -> x.hit(j, what), () -> model.hit(j, what));
        same("record(" + j + ")", () -> x.record(j), () -> model.record(j));
        int end = random.nextInt(3) == 0 ? model.record(j) + 1 : 0;
        for (int c = 0; c < end; c++) {
            int at = c;
            same("letter(" + j + ", " + c + ")", () -> x.letter(j, at), () -> model.letter(j, at));
        }
        int c = some(90);
        same("letter(" + j + ", " + c + ")", () -> x.letter(j, c), () -> model.letter(j, c));
    }

    private void look() {
        for (int n = 0; n < 4; n++) {
            int b = some(model.image.size());
            same("image(" + b + ")", () -> x.image(b), () -> model.image(b));
        }
    }

    private void spoil(int b, int bits) {
        same("spoil(" + b + ", " + bits + ")", () -> x.spoil(b, bits), () -> model.spoil(b, bits));
    }

    private void spoilAndLoad() {
        int b = some(model.image.size());
        int bits = random.nextInt(3) == 0 ? random.nextInt() : 1 << random.nextInt(9);
        spoil(b, bits);
        same("load", x::load, model::load);
        if (random.nextInt(3) != 0) {
            spoil(b, bits);
        }
    }

    /** Turns the image into another one, right or almost so, whose sum is right. */
    private void forge() {
        List<Integer> wanted = wanted();
        if (wanted.size() > model.image.size() || wanted.size() + 20 > CALLS - calls) {
            return;
        }
        while (model.image.size() > wanted.size() && calls < CALLS && !wrong) {
            same("cut", x::cut, model::cut);
        }
        for (int b = 0; b < wanted.size(); b++) {
            int bits = model.image(b) ^ wanted.get(b);
            if (bits != 0) {
                spoil(b, bits);
            }
        }
        same("load", x::load, model::load);
        endings();
    }

    private List<Integer> wanted() {
        List<String> names = new ArrayList<>(List.of("f"));
        List<String> pieces = new ArrayList<>(List.of("A" + bases(5)));
        for (int p = random.nextInt(6); p > 0; p--) {
            names.add(random.nextInt(30) == 0 ? "f" : "g" + p);
            pieces.add(bases(3) + (random.nextInt(30) == 0 ? "" : "C"));
        }
        List<Integer> right = Model.imageOf(names, pieces, 1 + random.nextInt(random.nextInt(10) == 0 ? 12 : 8));
        if (random.nextInt(3) == 0) {
            return right;
        }
        boolean ofOwn = random.nextBoolean() && model.image.size() > 8;
        List<Integer> bytes = new ArrayList<>(ofOwn ? model.image : right);
        bytes.subList(bytes.size() - 4, bytes.size()).clear();
        int at = random.nextInt(bytes.size());
        int other = random.nextInt(bytes.size());
        switch (random.nextInt(3)) {
            case 0 -> bytes.set(at, bytes.get(at) ^ 1 << random.nextInt(3));
            case 1 -> bytes.set(at, bytes.set(other, bytes.get(at)));
            default -> bytes.remove(at);
        }
        return Model.withSum(bytes);
    }
}
