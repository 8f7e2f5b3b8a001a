import java.util.ArrayList;
import java.util.List;
import java.util.Random;

/**
 * Runs of up to 512 calls, drawn with fixed seeds, each answer held to the Model's: numbers, and the very
 * class of what is thrown, so that an exception of the machine itself never passes for one of the document.
 */
public final class RandomRunsTest {
    private static final int RUNS = 1500;
    private static final int CALLS = 512;
    private static final int[] STYLES = {0, 1, 4, 5};
    private static final int[] SHAPES = {0, 1, 1, 2, 2, 3, 3, 4, 5, 7, 8, 13, 16, 33, 64, 65, -1};
    private static final int[] ODD = {-2147483648, -2, -1, 0, 1, 2, 3, 6, 74, 164, 165, 254, 255, 256, 1024, 65535,
        65536, 2147483647};

    private final Random random;
    private final PacketHeads real = new PacketHeads();
    private final Model model = new Model();
    private final List<String> run = new ArrayList<>();
    private final List<int[]> shapes = new ArrayList<>();
    private final List<int[]> firsts = new ArrayList<>();
    private final List<Integer> starts = new ArrayList<>();
    private final List<Integer> sizes = new ArrayList<>();
    private int layer;
    private int nextRead;
    private boolean failed;

    private interface Call {
        int on(boolean onReal);
    }

    private RandomRunsTest(long seed) {
        random = new Random(seed);
    }

    public static void main(String[] args) {
        for (int seed = 0; seed < RUNS; seed++) {
            RandomRunsTest test = new RandomRunsTest(seed);
            test.go();
            if (test.failed) {
                System.out.println("seed " + seed + ": " + test.run);
                System.exit(1);
            }
        }
        System.out.println(RUNS + " random runs answered as the model does");
    }

    private static String answer(Call call, boolean onReal) {
        try {
            return Integer.toString(call.on(onReal));
        } catch (RuntimeException e) {
            return "throws." + e.getClass().getSimpleName();
        }
    }

    /** Makes the call on both: whether it went through. */
    private boolean same(String name, Call call) {
        if (failed || run.size() >= CALLS) {
            return false;
        }
        String got = answer(call, true);
        String due = answer(call, false);
        run.add(name + " = " + got + (got.equals(due) ? "" : ", due is " + due));
        failed = !got.equals(due);
        return !got.startsWith("throws");
    }

    private int any(int[] row) {
        return row[random.nextInt(row.length)];
    }

    private boolean chance(int percent) {
        return random.nextInt(100) < percent;
    }

    private void go() {
        while (run.size() < CALLS && !failed) {
            precinct();
        }
    }

    private void precinct() {
        if (!run.isEmpty() || chance(50)) {
            begin(any(STYLES));
        }
        if (chance(5)) {
            begin(any(ODD));
        }
        shapes.clear();
        firsts.clear();
        starts.clear();
        sizes.clear();
        layer = 0;
        nextRead = 0;
        int bands = random.nextInt(4);
        for (int i = 0; i < bands; i++) {
            band(any(SHAPES), any(SHAPES));
        }
        firstLayers();
        int heads = chance(5) ? 256 : 1 + random.nextInt(7);
        for (int i = 0; i < heads && run.size() < CALLS && !failed; i++) {
            writeOne();
            odd();
            if (chance(40)) {
                readNext();
            }
        }
        while (chance(90) && nextRead < starts.size()) {
            readNext();
        }
        if (chance(40)) {
            readNoise();
        }
    }

    private void begin(int style) {
        same("begin(" + style + ")", r -> {
            if (r) {
                real.begin(style);
            } else {
                model.begin(style);
            }
            return 0;
        });
    }

    private void band(int wide, int high) {
        if (same("band(" + wide + ", " + high + ")", r -> r ? real.band(wide, high) : model.band(wide, high))) {
            shapes.add(new int[] {wide, high});
        }
    }

    private void firstLayers() {
        int told = 1 + random.nextInt(12);
        for (int band = 0; band < shapes.size(); band++) {
            int blocks = shapes.get(band)[0] * shapes.get(band)[1];
            for (int i = 0; i < told && blocks > 0; i++) {
                int block = blocks <= 12 ? i % blocks : random.nextInt(blocks);
                first(band, block, chance(10) ? -1 : random.nextInt(4), random.nextInt(chance(80) ? 8 : 74));
            }
        }
    }

    private void first(int band, int block, int layer, int missing) {
        boolean went = same("first(" + band + ", " + block + ", " + layer + ", " + missing + ")", r -> {
            if (r) {
                real.first(band, block, layer, missing);
            } else {
                model.first(band, block, layer, missing);
            }
            return 0;
        });
        if (went) {
            firsts.removeIf(f -> f[0] == band && f[1] == block);
            firsts.add(new int[] {band, block, layer});
        }
    }

    private int passes() {
        int kind = random.nextInt(10);
        return kind < 4 ? 1 + random.nextInt(5) : kind < 8 ? 1 + random.nextInt(40) : random.nextInt(166);
    }

    private int length() {
        int kind = random.nextInt(10);
        return kind < 6 ? random.nextInt(40) : kind < 9 ? random.nextInt(3000) : random.nextInt(65536);
    }

    private int bring(int band, int block, int passes) {
        same("bring(" + band + ", " + block + ", " + passes + ")",
                r -> r ? real.bring(band, block, passes) : model.bring(band, block, passes));
        String latest = run.get(run.size() - 1);
        return latest.contains("throws") ? 0 : Integer.parseInt(latest.substring(latest.lastIndexOf(' ') + 1));
    }

    private void piece(int band, int block, int bytes) {
        same("piece(" + band + ", " + block + ", " + bytes + ")",
                r -> r ? real.piece(band, block, bytes) : model.piece(band, block, bytes));
    }

    private void writeOne() {
        boolean quiet = chance(20);
        for (int[] it : new ArrayList<>(firsts)) {
            boolean due = it[2] == layer || it[2] != -1 && it[2] < layer && !quiet && chance(60);
            if (due && !failed) {
                if (chance(10)) {
                    piece(it[0], it[1], length());
                    bring(it[0], it[1], passes());
                    piece(it[0], it[1], length());
                }
                int pieces = bring(it[0], it[1], chance(97) ? passes() : any(ODD));
                for (int i = 0; i < pieces && run.size() < CALLS && !chance(1); i++) {
                    piece(it[0], it[1], length());
                }
            }
        }
        int place = model.at(-1);
        if (same("write()", r -> r ? real.write() : model.write())) {
            starts.add(place);
            sizes.add(model.at(-1) - place);
            layer++;
        }
        for (int k = place; k < model.at(-1) && k < place + 6; k++) {
            at(k);
        }
        if (model.at(-1) > place) {
            at(model.at(-1) - 1);
        }
    }

    private void at(int k) {
        same("at(" + k + ")", r -> r ? real.at(k) : model.at(k));
    }

    private void put(int b) {
        same("put(" + b + ")", r -> r ? real.put(b) : model.put(b));
    }

    private void readNext() {
        if (nextRead >= starts.size()) {
            return;
        }
        int place = starts.get(nextRead);
        int size = sizes.get(nextRead);
        int n = chance(90) ? size : chance(50) ? model.at(-1) - place : size - 1;
        if (read(chance(97) ? place : place + 1, n)) {
            nextRead++;
        }
        look();
    }

    private boolean read(int place, int n) {
        return same("read(" + place + ", " + n + ")", r -> r ? real.read(place, n) : model.read(place, n));
    }

    private void readNoise() {
        int place = model.at(-1);
        int length = random.nextInt(40);
        for (int i = 0; i < length; i++) {
            put(chance(25) ? 255 : random.nextInt(256));
        }
        for (int i = 0; i < 6 && place <= model.at(-1); i++) {
            int before = run.size();
            if (!read(place, model.at(-1) - place)) {
                break;
            }
            String latest = run.get(before);
            place += Integer.parseInt(latest.substring(latest.lastIndexOf(' ') + 1));
            look();
        }
        look();
    }

    private void look() {
        for (int i = 0; i < 6 && !shapes.isEmpty(); i++) {
            int band = random.nextInt(shapes.size());
            int block = random.nextInt(Math.max(1, shapes.get(band)[0] * shapes.get(band)[1]));
            if (!firsts.isEmpty() && chance(70)) {
                int[] it = firsts.get(random.nextInt(firsts.size()));
                band = it[0];
                block = it[1];
            }
            got(band, block, random.nextInt(6));
            bytes(band, block, random.nextInt(4));
        }
        layers(random.nextInt(3));
    }

    private void got(int band, int block, int w) {
        same("got(" + band + ", " + block + ", " + w + ")",
                r -> r ? real.got(band, block, w) : model.got(band, block, w));
    }

    private void bytes(int band, int block, int i) {
        same("bytes(" + band + ", " + block + ", " + i + ")",
                r -> r ? real.bytes(band, block, i) : model.bytes(band, block, i));
    }

    private void layers(int w) {
        same("layers(" + w + ")", r -> r ? real.layers(w) : model.layers(w));
    }

    /** Now and then a call with arguments that mostly can't be. */
    private void odd() {
        if (!chance(30)) {
            return;
        }
        int band = chance(60) ? random.nextInt(3) : any(ODD);
        int block = chance(60) ? random.nextInt(4) : any(ODD);
        switch (random.nextInt(12)) {
            case 0 -> band(any(ODD), any(SHAPES));
            case 1 -> first(band, block, any(ODD), any(ODD));
            case 2 -> bring(band, block, any(ODD));
            case 3 -> piece(band, block, any(ODD));
            case 4 -> put(any(ODD));
            case 5 -> at(any(ODD));
            case 6 -> read(any(ODD), any(ODD));
            case 7 -> got(band, block, any(ODD));
            case 8 -> bytes(band, block, any(ODD));
            case 9 -> layers(any(ODD));
            case 10 -> band(any(SHAPES), any(SHAPES));
            default -> {
                if (chance(20)) {
                    same("clear()", r -> {
                        if (r) {
                            real.clear();
                        } else {
                            model.clear();
                        }
                        return 0;
                    });
                }
            }
        }
    }
}
