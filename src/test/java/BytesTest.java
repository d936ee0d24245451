/** Promises 8 to 12: size, at, put, add, cut; sentence by sentence. */
public final class BytesTest {
    private static final Check CHECK = new Check();
    private static final int LEAST = Integer.MIN_VALUE;
    private static final int MOST = Integer.MAX_VALUE;
    private static final int[] NO_BYTES = {-1, 256, 257, -255, -256, LEAST, MOST};

    public static void main(String[] args) {
        CHECK.sentence("How many bytes the file has.", BytesTest::sizes);

        CHECK.sentence("A byte of the file, 0 .. 255", BytesTest::atAll);
        CHECK.sentence("NONE if there is none such. (at)", BytesTest::atOutside);

        CHECK.sentence("A byte of the file becomes b: what it was.", BytesTest::puts);
        CHECK.sentence("IndexOutOfBounds: there is none such. (put)", BytesTest::putOutside);
        CHECK.sentence("IllegalArgument: b is not 0 .. 255.", BytesTest::putNoByte);
        CHECK.sentence("where it lists more than one exception, the first one wins. (put)", BytesTest::putFirstWins);

        CHECK.sentence("A byte more in the file: true", BytesTest::adds);
        CHECK.sentence("false if b is not 0 .. 255", BytesTest::addNoByte);
        CHECK.sentence("or there are 2000.", BytesTest::addToFull);
        CHECK.sentence("A FILE has at most 2000 bytes.", BytesTest::fullFileIsRead);

        CHECK.sentence("Only the first bytes are left: how many are gone.", BytesTest::cuts);
        CHECK.sentence("Only the first bytes are left: how many are gone. (more than there are)", BytesTest::cutBeyond);
        CHECK.sentence("IllegalArgument: many is below 0.", BytesTest::cutBelowNothing);
        CHECK.end();
    }

    private static void sizes() {
        FaxPages pages = new FaxPages();
        CHECK.same("of a new object", pages.size(), 0);
        pages.add(0);
        CHECK.same("one added", pages.size(), 1);
        pages.add(256);
        CHECK.same("none added", pages.size(), 1);
        pages.put(0, 7);
        CHECK.same("one changed", pages.size(), 1);
        int written = pages.write(1, false, 1);
        CHECK.same("written", pages.size(), written);
        CHECK.same("written", pages.size(), 112);
        pages.read();
        CHECK.same("read", pages.size(), 112);
        pages.blank(true, 5, 5);
        CHECK.same("another picture", pages.size(), 112);
        pages.cut(3);
        CHECK.same("cut", pages.size(), 3);
        pages.cut(0);
        CHECK.same("cut", pages.size(), 0);
    }

    private static void atAll() {
        FaxPages pages = new FaxPages();
        for (int b = 0; b <= 255; b++) {
            pages.add(b);
        }
        for (int b = 0; b <= 255; b++) {
            CHECK.same("at", pages.at(b), b);
        }
    }

    private static void atOutside() {
        CHECK.same("of no bytes", new FaxPages().at(0), FaxPages.NONE);
        FaxPages pages = Pages.ofBytes(5, 6, 7);
        CHECK.same("last", pages.at(2), 7);
        for (int i : new int[] {-1, 3, 4, 1999, 2000, 2001, LEAST, MOST, 65536, -65536}) {
            CHECK.same("at " + i, pages.at(i), FaxPages.NONE);
        }
        pages.cut(2);
        CHECK.same("cut away", pages.at(2), FaxPages.NONE);
        CHECK.same("left", pages.at(1), 6);
    }

    private static void puts() {
        FaxPages pages = Pages.ofBytes(3, 4, 5);
        CHECK.same("first", pages.put(0, 255), 3);
        CHECK.same("last", pages.put(2, 0), 5);
        CHECK.same("again", pages.put(0, 0), 255);
        CHECK.same("the same", pages.put(1, 4), 4);
        CHECK.same("bytes", Pages.hex(pages, 0, pages.size()), "00 04 00");
        FaxPages past = Pages.withPast();
        CHECK.same("a written byte", past.put(1, 1), 77);
        CHECK.same("picture stays", Pages.shown(past), Pages.shown(Pages.withPast()));
    }

    private static void putOutside() {
        CHECK.refuses("no bytes", IndexOutOfBoundsException.class, new FaxPages(), p -> p.put(0, 1));
        int size = Pages.withPast().size();
        for (int i : new int[] {-1, size, size + 1, 1999, 2000, LEAST, MOST}) {
            CHECK.refuses("put at " + i, IndexOutOfBoundsException.class, Pages.withPast(), p -> p.put(i, 1));
        }
        FaxPages cut = Pages.ofBytes(5, 6, 7);
        cut.cut(2);
        CHECK.refuses("put at a byte that is gone", IndexOutOfBoundsException.class, cut, p -> p.put(2, 1));
    }

    private static void putNoByte() {
        for (int b : NO_BYTES) {
            CHECK.refuses("put " + b, IllegalArgumentException.class, Pages.withPast(), p -> p.put(0, b));
        }
    }

    private static void putFirstWins() {
        int size = Pages.withPast().size();
        for (int b : NO_BYTES) {
            CHECK.refuses("put " + b, IndexOutOfBoundsException.class, Pages.withPast(), p -> p.put(-1, b));
            CHECK.refuses("put " + b, IndexOutOfBoundsException.class, Pages.withPast(), p -> p.put(size, b));
        }
    }

    private static void adds() {
        FaxPages pages = new FaxPages();
        int[] values = {0, 255, 128, 7};
        for (int i = 0; i < values.length; i++) {
            CHECK.isTrue("add", pages.add(values[i]));
            CHECK.same("size", pages.size(), i + 1);
            CHECK.same("the last one", pages.at(i), values[i]);
        }
        FaxPages past = Pages.withPast();
        String before = Pages.state(past);
        CHECK.isTrue("add to a written file", past.add(170));
        CHECK.same("a byte more and nothing else", Pages.state(past), before + " aa");
    }

    private static void addNoByte() {
        for (int b : NO_BYTES) {
            FaxPages pages = Pages.withPast();
            String before = Pages.state(pages);
            CHECK.isTrue("add " + b + " is false", !pages.add(b));
            CHECK.same("state", Pages.state(pages), before);
        }
    }

    private static FaxPages ofSize(int size) {
        FaxPages pages = Pages.withPast();
        for (int i = pages.size(); i < size; i++) {
            pages.add(i % 251);
        }
        return pages;
    }

    private static void addToFull() {
        FaxPages pages = ofSize(1999);
        CHECK.same("size", pages.size(), 1999);
        CHECK.isTrue("the 2000th", pages.add(200));
        String before = Pages.state(pages);
        CHECK.isTrue("no 2001st", !pages.add(1));
        CHECK.isTrue("no 2001st that is no byte", !pages.add(256));
        CHECK.same("state", Pages.state(pages), before);
        CHECK.same("last", pages.at(1999), 200);
        CHECK.same("behind it", pages.at(2000), FaxPages.NONE);
        CHECK.same("put at the last", pages.put(1999, 201), 200);
        CHECK.refuses("put behind it", IndexOutOfBoundsException.class, pages, p -> p.put(2000, 1));
        CHECK.same("cut", pages.cut(1999), 1);
        CHECK.isTrue("there is room again", pages.add(202));
        CHECK.same("last", pages.at(1999), 202);
        CHECK.isTrue("and no more", !pages.add(203));
        CHECK.same("a full file is written anew", pages.write(1, false, 2), 8 + 6 + 102);
    }

    private static void fullFileIsRead() {
        FaxPages pages = FileMaker.one(1, 2, 1, "10").gap(1888).made();
        CHECK.same("size", pages.size(), 2000 - 1);
        CHECK.same("1999 bytes", pages.read(), 1);
        pages = FileMaker.one(1, 2, 1, "10").gap(1889).made();
        CHECK.same("size", pages.size(), 2000);
        CHECK.same("2000 bytes, the tags last", pages.read(), 1);
        CHECK.same("picture", Pages.shown(pages), "#.\n");
        pages.cut(1999);
        CHECK.same("one less", pages.read(), FaxPages.TAGS);
    }

    private static void cuts() {
        FaxPages pages = Pages.ofBytes(0, 1, 2, 3, 4, 5, 6, 7, 8, 9);
        CHECK.same("cut to 7", pages.cut(7), 3);
        CHECK.same("bytes", Pages.hex(pages, 0, pages.size()), "00 01 02 03 04 05 06");
        CHECK.same("cut to 6", pages.cut(6), 1);
        CHECK.same("size", pages.size(), 6);
        CHECK.isTrue("add", pages.add(99));
        CHECK.same("bytes", Pages.hex(pages, 0, pages.size()), "00 01 02 03 04 05 63");
        CHECK.same("cut to 0", pages.cut(0), 7);
        CHECK.same("size", pages.size(), 0);
        FaxPages past = Pages.withPast();
        int size = past.size();
        CHECK.same("cut a written file", past.cut(0), size);
        CHECK.same("picture stays", Pages.shown(past), Pages.shown(Pages.withPast()));
        CHECK.same("and what is known of the file", past.info(3), 32773);
    }

    private static void cutBeyond() {
        CHECK.same("of no bytes", new FaxPages().cut(0), 0);
        CHECK.same("of no bytes", new FaxPages().cut(MOST), 0);
        FaxPages pages = Pages.withPast();
        String before = Pages.state(pages);
        CHECK.same("as many as there are", pages.cut(pages.size()), 0);
        CHECK.same("one more", pages.cut(pages.size() + 1), 0);
        CHECK.same("more than a file has", pages.cut(2001), 0);
        CHECK.same("the most", pages.cut(MOST), 0);
        CHECK.same("state", Pages.state(pages), before);
    }

    private static void cutBelowNothing() {
        for (int many : new int[] {-1, -2, -2000, LEAST}) {
            CHECK.refuses("cut " + many, IllegalArgumentException.class, Pages.withPast(), p -> p.cut(many));
            CHECK.refuses("cut " + many, IllegalArgumentException.class, new FaxPages(), p -> p.cut(many));
        }
    }
}
