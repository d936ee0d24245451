/** Promises 8 to 12: size, at, put, add, cut. */
public final class BytesTest {
    private static final Check CHECK = new Check();

    public static void main(String[] args) {
        addAndAt();
        addFull();
        puts();
        cuts();
        CHECK.end();
    }

    private static void addAndAt() {
        FaxPages pages = new FaxPages();
        int[] values = {0, 255, 128, 7};
        for (int i = 0; i < values.length; i++) {
            CHECK.isTrue("add", pages.add(values[i]));
            CHECK.same("size", pages.size(), i + 1);
        }
        for (int wrong : new int[] {-1, 256, Integer.MIN_VALUE, Integer.MAX_VALUE}) {
            CHECK.isTrue("add of no byte is refused", !pages.add(wrong));
        }
        CHECK.same("size", pages.size(), 4);
        for (int i = 0; i < values.length; i++) {
            CHECK.same("at", pages.at(i), values[i]);
        }
        for (int none : new int[] {-1, 4, 2000, Integer.MIN_VALUE, Integer.MAX_VALUE}) {
            CHECK.same("at " + none, pages.at(none), FaxPages.NONE);
        }
    }

    private static void addFull() {
        FaxPages pages = new FaxPages();
        for (int i = 0; i < 2000; i++) {
            CHECK.isTrue("add " + i, pages.add(i % 251));
        }
        CHECK.isTrue("2000 is all", !pages.add(1));
        CHECK.same("size", pages.size(), 2000);
        CHECK.same("last", pages.at(1999), 1999 % 251);
        CHECK.same("cut", pages.cut(1999), 1);
        CHECK.isTrue("there is room again", pages.add(200));
        CHECK.same("last", pages.at(1999), 200);
    }

    private static void puts() {
        FaxPages pages = new FaxPages();
        pages.add(3);
        pages.add(4);
        CHECK.same("put", pages.put(1, 255), 4);
        CHECK.same("put", pages.put(1, 0), 255);
        CHECK.same("put", pages.put(0, 9), 3);
        String before = Pages.state(pages);
        for (int i : new int[] {-1, 2, Integer.MAX_VALUE, Integer.MIN_VALUE}) {
            CHECK.raises("put outside", IndexOutOfBoundsException.class, () -> pages.put(i, 1));
            CHECK.raises("put outside wins", IndexOutOfBoundsException.class, () -> pages.put(i, -1));
        }
        for (int b : new int[] {-1, 256, Integer.MIN_VALUE}) {
            CHECK.raises("put no byte", IllegalArgumentException.class, () -> pages.put(0, b));
        }
        CHECK.same("state", Pages.state(pages), before);
    }

    private static void cuts() {
        FaxPages pages = new FaxPages();
        for (int i = 0; i < 10; i++) {
            pages.add(i);
        }
        CHECK.same("cut beyond", pages.cut(11), 0);
        CHECK.same("cut far beyond", pages.cut(Integer.MAX_VALUE), 0);
        CHECK.same("cut nothing", pages.cut(10), 0);
        CHECK.same("cut", pages.cut(7), 3);
        CHECK.same("size", pages.size(), 7);
        CHECK.same("at", pages.at(6), 6);
        CHECK.same("at", pages.at(7), FaxPages.NONE);
        CHECK.raises("cut below 0", IllegalArgumentException.class, () -> pages.cut(-1));
        CHECK.raises("cut below 0", IllegalArgumentException.class, () -> pages.cut(Integer.MIN_VALUE));
        CHECK.same("size", pages.size(), 7);
        CHECK.same("cut all", pages.cut(0), 7);
        CHECK.same("cut of nothing", pages.cut(0), 0);
        CHECK.same("size", pages.size(), 0);
    }
}
