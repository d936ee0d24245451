import java.util.Random;

/** Pictures of all sizes and tempers, the same ones in every run of a test. */
final class RandomPages {
    private static final int[] SCHEMES = {1, 32773, 5, 3, 4};

    private RandomPages() {
    }

    static int scheme(Random random, boolean gray) {
        return SCHEMES[random.nextInt(gray ? 3 : 5)];
    }

    /** Needs codes of 10 bits in the scheme TABLE, if it is one strip. */
    static FaxPages noise(Random random) {
        return Pages.gray(20, random.ints(400, 0, 256).toArray());
    }

    static FaxPages picture(Random random) {
        boolean gray = random.nextInt(3) == 0;
        FaxPages pages = new FaxPages();
        pages.blank(gray, 1 + random.nextInt(gray ? 20 : 40), 1 + random.nextInt(gray ? 20 : 24));
        int values = gray ? 1 + random.nextInt(random.nextBoolean() ? 4 : 256) : 2;
        int keepsColour = 1 + random.nextInt(12);
        int keepsLine = random.nextInt(10);
        int value = 0;
        for (int y = 0; y < pages.info(1); y++) {
            for (int x = 0; x < pages.info(0); x++) {
                value = random.nextInt(keepsColour) == 0 ? random.nextInt(values) : value;
                boolean asAbove = y > 0 && random.nextInt(10) < keepsLine;
                pages.set(x, y, asAbove ? pages.get(x, y - 1) : value);
            }
        }
        return pages;
    }
}
