import java.util.Random;
import java.util.function.IntSupplier;

/** All promises: long runs of calls, right and wrong ones, answered by the program as by the model. */
public final class ModelTest {
    private static final Check CHECK = new Check();
    private static final int[] SCHEMES = {1, 32773, 5, 3, 4};
    private static final int[] BYTES = {0, 1, 2, 3, 4, 8, 127, 128, 129, 255};
    private static final int[] ODD = {-1, 0, 1, 2, 7, 256, 2000, Integer.MIN_VALUE, Integer.MAX_VALUE};

    private final Random random;
    private final String name;
    private FaxPages pages = new FaxPages();
    private Model model = new Model();

    private ModelTest(int seed) {
        random = new Random(seed);
        name = "run " + seed;
    }

    public static void main(String[] args) {
        int many = args.length > 0 ? Integer.parseInt(args[0]) : 600;
        int from = args.length > 1 ? Integer.parseInt(args[1]) : 0;
        int[] answers = new int[29];
        for (int seed = from; seed < from + many; seed++) {
            ModelTest run = new ModelTest(seed);
            for (int i = 0; i < 3; i++) {
                run.pictureAndFile(answers);
            }
            for (int i = 0; i < 40; i++) {
                run.strangeStrips(answers);
            }
            run.wildCalls();
        }
        // A test that never sees one of the answers would prove nothing of it.
        for (int answer : new int[] {FaxPages.HEADER, FaxPages.TAGS, FaxPages.STRIPS, FaxPages.DATA, 1, 2, 3, 4}) {
            CHECK.isTrue("read has answered " + answer, answers[answer + 4] > 0);
        }
        CHECK.end();
    }

    private static int answerOf(IntSupplier call) {
        try {
            return call.getAsInt();
        } catch (IllegalArgumentException e) {
            return -1001;
        } catch (IndexOutOfBoundsException e) {
            return -1002;
        } catch (IllegalStateException e) {
            return -1003;
        }
    }

    private int both(String call, IntSupplier ofPages, IntSupplier ofModel) {
        int answer = answerOf(ofPages);
        CHECK.same(name + ": " + call, answer, answerOf(ofModel));
        return answer;
    }

    private void sameState() {
        for (int what = -1; what <= 7; what++) {
            CHECK.same(name + ": info " + what, pages.info(what), model.info(what));
        }
        CHECK.same(name + ": size", pages.size(), model.size());
        int wrong = 0;
        for (int i = 0; i < pages.size(); i++) {
            wrong += pages.at(i) == model.at(i) ? 0 : 1;
        }
        for (int y = 0; y < pages.info(1); y++) {
            for (int x = 0; x < pages.info(0); x++) {
                wrong += pages.get(x, y) == model.get(x, y) ? 0 : 1;
            }
        }
        CHECK.same(name + ": wrong bytes and pixels", wrong, 0);
    }

    private void start() {
        pages = new FaxPages();
        model = new Model();
    }

    private void pictureAndFile(int[] answers) {
        start();
        FaxPages picture = RandomPages.picture(random);
        int height = picture.info(1);
        boolean gray = picture.info(2) == 1;
        pages.blank(gray, picture.info(0), height);
        model.blank(gray, picture.info(0), height);
        for (int y = 0; y < height; y++) {
            for (int x = 0; x < picture.info(0); x++) {
                pages.set(x, y, picture.get(x, y));
                model.set(x, y, picture.get(x, y));
            }
        }
        int scheme = RandomPages.scheme(random, gray);
        int rows = random.nextInt(3) == 0 ? height : 1 + random.nextInt(height);
        boolean motorola = random.nextBoolean();
        both("write " + scheme, () -> pages.write(scheme, motorola, rows), () -> model.write(scheme, motorola, rows));
        sameState();
        String shown = Pages.shown(pages);
        int answer = both("read", () -> pages.read(), () -> model.read());
        answers[answer + 4]++;
        CHECK.same(name + ": what was written", Pages.shown(pages), shown);
        for (int i = 0; i < 40; i++) {
            spoil(scheme);
            answers[both("read", () -> pages.read(), () -> model.read()) + 4]++;
            if (i % 8 == 0) {
                sameState();
            }
        }
    }

    /** Changes a few bytes, mostly so that it can be seen by the strips or tags, and at times changes them back. */
    private void spoil(int scheme) {
        int kind = random.nextInt(12);
        if (kind == 0 && pages.size() > 0) {
            int many = pages.size() - random.nextInt(3);
            both("cut", () -> pages.cut(many), () -> model.cut(many));
        } else if (kind == 1) {
            int b = random.nextInt(256);
            both("add", () -> pages.add(b) ? 1 : 0, () -> model.add(b) ? 1 : 0);
        } else if (kind <= 3) {
            both("write", () -> pages.write(scheme, true, pages.info(1)), () -> model.write(scheme, true, model.info(1)));
        } else {
            int size = pages.size();
            int i = kind < 10 ? 8 + random.nextInt(Math.max(1, size - 110)) : random.nextInt(Math.max(1, size));
            int old = Math.max(0, pages.at(i));
            int b = random.nextBoolean() ? old ^ 1 << random.nextInt(8) : BYTES[random.nextInt(BYTES.length)];
            both("put", () -> pages.put(i, b), () -> model.put(i, b));
            if (random.nextBoolean()) {
                both("read", () -> pages.read(), () -> model.read());
                both("put back", () -> pages.put(i, old), () -> model.put(i, old));
            }
        }
    }

    /** Strips of right codes in any order: what other writers may do, and what none may. */
    private void strangeStrips(int[] answers) {
        int scheme = SCHEMES[1 + random.nextInt(4)];
        int width = 1 + random.nextInt(random.nextBoolean() ? 4 : 20);
        int height = 1 + random.nextInt(3);
        StringBuilder bits = new StringBuilder();
        if (scheme == 32773) {
            for (int i = random.nextInt(8); i >= 0; i--) {
                bits.append(Pages.codes(8, new int[] {0, 0, 128, 255, 1, 254}[random.nextInt(6)]));
            }
        } else if (scheme == 5) {
            bits.append(Pages.codes(9, 256));
            for (int i = random.nextInt(8); i >= 0; i--) {
                bits.append(Pages.codes(9, new int[] {0, 128, 256, 258, 259, 260}[random.nextInt(6)]));
            }
            bits.append(Pages.codes(9, 257));
        } else {
            for (int y = 0; y < height; y++) {
                boolean byItself = scheme == 3 && (y == 0 || random.nextBoolean());
                bits.append(scheme == 4 ? "" : Model.MARK + (byItself ? "1" : "0"));
                for (int i = random.nextInt(5); i >= 0; i--) {
                    bits.append(byItself ? runs(width) : random.nextInt(3) > 0 ? "1"
                        : Model.MODES[random.nextInt(8)]);
                    bits.append(!byItself && random.nextInt(3) == 0 ? "001" + runs(width) : "");
                }
            }
            bits.append(scheme == 4 ? Model.MARK + Model.MARK : "");
        }
        pages = FileMaker.one(scheme, width, height, bits.toString()).made();
        model = new Model();
        for (int i = 0; i < pages.size(); i++) {
            model.add(pages.at(i));
        }
        answers[both("read of " + scheme + " " + bits, () -> pages.read(), () -> model.read()) + 4]++;
        sameState();
    }

    private String runs(int width) {
        return Model.WHITE[random.nextInt(width + 1)] + Model.BLACK[random.nextInt(width + 1)];
    }

    private int odd() {
        return random.nextInt(3) == 0 ? ODD[random.nextInt(ODD.length)] : random.nextInt(26) - 1;
    }

    private void wildCalls() {
        start();
        for (int i = 0; i < 300; i++) {
            int a = odd();
            int b = odd();
            int c = odd();
            boolean yes = random.nextBoolean();
            int scheme = random.nextInt(6) == 0 ? a : SCHEMES[random.nextInt(5)];
            switch (random.nextInt(11)) {
                case 0 -> both("blank", () -> { pages.blank(yes, a, b); return 0; },
                    () -> { model.blank(yes, a, b); return 0; });
                case 1, 2 -> both("set", () -> { pages.set(a, b, c); return 0; },
                    () -> { model.set(a, b, c); return 0; });
                case 3 -> both("get", () -> pages.get(a, b), () -> model.get(a, b));
                case 4 -> both("info", () -> pages.info(a), () -> model.info(a));
                case 5 -> both("write", () -> pages.write(scheme, yes, b), () -> model.write(scheme, yes, b));
                case 6 -> both("read", () -> pages.read(), () -> model.read());
                case 7 -> both("at", () -> pages.at(a), () -> model.at(a));
                case 8 -> both("put", () -> pages.put(a, b), () -> model.put(a, b));
                case 9 -> both("add", () -> pages.add(a) ? 1 : 0, () -> model.add(a) ? 1 : 0);
                default -> both("cut", () -> pages.cut(1000 * a), () -> model.cut(1000 * a));
            }
        }
        sameState();
    }
}
