import java.util.function.Consumer;

/** Promises 1 to 5: a new object, blank, set, get, info; sentence by sentence. */
public final class PictureTest {
    private static final Check CHECK = new Check();
    private static final int LEAST = Integer.MIN_VALUE;
    private static final int MOST = Integer.MAX_VALUE;

    public static void main(String[] args) {
        CHECK.sentence("A BILEVEL picture of one white pixel; an empty file.", PictureTest::newObject);

        CHECK.sentence("A PICTURE is BILEVEL, at most 40 by 24", PictureTest::bilevelSizes);
        CHECK.sentence("or GRAY, at most 20 by 20", PictureTest::graySizes);
        CHECK.sentence("IllegalArgument: the size is not as said", PictureTest::tooLarge);
        CHECK.sentence("or less than 1 by 1.", PictureTest::tooSmall);
        CHECK.sentence("A picture of pixels 0: GRAY or BILEVEL.", PictureTest::blankClears);

        CHECK.sentence("its pixels being 0 (white) and 1 (black)", PictureTest::bilevelValues);
        CHECK.sentence("with pixels 0 .. 255", PictureTest::grayValues);
        CHECK.sentence("x counts from the left, y from the top", PictureTest::directions);
        CHECK.sentence("IndexOutOfBounds: there is none such. (set)", PictureTest::setOutside);
        CHECK.sentence("IllegalArgument: v is no value of a pixel.", PictureTest::setNoValue);
        CHECK.sentence("where it lists more than one exception, the first one wins. (set)", PictureTest::setFirstWins);

        CHECK.sentence("A pixel; NONE if there is none such.", PictureTest::getOutside);

        CHECK.sentence("Of the picture: 0 its width, 1 its height, 2 whether it is GRAY (1 or 0)",
            PictureTest::infoOfPicture);
        CHECK.sentence("of the file that was written or read last: 3 its scheme, 4 whether its order is MM,"
            + " 5 rows of a strip, 6 how many strips", PictureTest::infoOfFile);
        CHECK.sentence("of the file that was written or read last", PictureTest::infoOfTheLast);
        CHECK.sentence("NONE for others", PictureTest::infoOfOthers);
        CHECK.sentence("or if there is no such file.", PictureTest::infoOfNoFile);
        CHECK.end();
    }

    private static void newObject() {
        FaxPages pages = new FaxPages();
        CHECK.same("width", pages.info(0), 1);
        CHECK.same("height", pages.info(1), 1);
        CHECK.same("gray", pages.info(2), 0);
        CHECK.same("pixel", pages.get(0, 0), 0);
        CHECK.same("beside it", pages.get(1, 0), FaxPages.NONE);
        CHECK.same("below it", pages.get(0, 1), FaxPages.NONE);
        CHECK.same("size", pages.size(), 0);
        CHECK.same("at", pages.at(0), FaxPages.NONE);
        CHECK.same("read", pages.read(), FaxPages.HEADER);
        CHECK.same("cut", pages.cut(0), 0);
        CHECK.refuses("a bilevel picture: set 2", IllegalArgumentException.class, new FaxPages(),
            p -> p.set(0, 0, 2));
        CHECK.refuses("an empty file: put", IndexOutOfBoundsException.class, new FaxPages(), p -> p.put(0, 0));
        CHECK.refuses("one row: write", IllegalArgumentException.class, new FaxPages(), p -> p.write(4, true, 2));
        pages.set(0, 0, 1);
        pages.add(9);
        CHECK.same("another object's pixel", new FaxPages().get(0, 0), 0);
        CHECK.same("another object's file", new FaxPages().size(), 0);
        CHECK.same("it can be written: bytes", new FaxPages().write(4, true, 1), 8 + 4 + 102);
    }

    private static void sizeHolds(boolean gray, int width, int height) {
        FaxPages pages = Pages.withPast();
        pages.blank(gray, width, height);
        String what = "blank " + gray + " " + width + " " + height + ": ";
        CHECK.same(what + "width", pages.info(0), width);
        CHECK.same(what + "height", pages.info(1), height);
        CHECK.same(what + "gray", pages.info(2), gray ? 1 : 0);
        CHECK.same(what + "last pixel", pages.get(width - 1, height - 1), 0);
        CHECK.same(what + "behind the row", pages.get(width, height - 1), FaxPages.NONE);
        CHECK.same(what + "below", pages.get(width - 1, height), FaxPages.NONE);
        pages.set(width - 1, height - 1, 1);
        CHECK.same(what + "last pixel", pages.get(width - 1, height - 1), 1);
    }

    private static void bilevelSizes() {
        for (int width = 1; width <= 40; width++) {
            sizeHolds(false, width, 24);
        }
        for (int height = 1; height <= 24; height++) {
            sizeHolds(false, 40, height);
        }
        sizeHolds(false, 1, 1);
    }

    private static void graySizes() {
        for (int size = 1; size <= 20; size++) {
            sizeHolds(true, size, 20);
            sizeHolds(true, 20, size);
        }
        sizeHolds(true, 1, 1);
    }

    private static void sizeRefused(boolean gray, int width, int height) {
        Consumer<FaxPages> blank = pages -> pages.blank(gray, width, height);
        String what = "blank " + gray + " " + width + " " + height;
        CHECK.refuses(what, IllegalArgumentException.class, Pages.withPast(), blank);
        CHECK.refuses(what, IllegalArgumentException.class, Pages.bilevelWithPast(), blank);
    }

    private static void tooLarge() {
        int[][] bilevel = {{41, 1}, {1, 25}, {41, 24}, {40, 25}, {24, 40}, {MOST, 1}, {1, MOST}, {MOST, MOST},
            {65537, 1}, {1, 65537}};
        int[][] gray = {{21, 1}, {1, 21}, {21, 20}, {20, 21}, {40, 10}, {10, 24}, {MOST, 1}, {1, MOST},
            {257, 1}, {1, 257}};
        for (int[] size : bilevel) {
            sizeRefused(false, size[0], size[1]);
        }
        for (int[] size : gray) {
            sizeRefused(true, size[0], size[1]);
        }
    }

    private static void tooSmall() {
        int[][] small = {{0, 1}, {1, 0}, {0, 0}, {-1, 1}, {1, -1}, {-1, -1}, {-5, 20}, {20, -5}, {LEAST, 1}, {1, LEAST}};
        for (int[] size : small) {
            sizeRefused(false, size[0], size[1]);
            sizeRefused(true, size[0], size[1]);
        }
    }

    private static void blankClears() {
        FaxPages pages = Pages.withPast();
        int size = pages.size();
        pages.blank(true, 3, 2);
        CHECK.same("of the same size", Pages.shown(pages), "0 0 0 \n0 0 0 \n");
        pages.set(2, 1, 255);
        pages.blank(false, 2, 2);
        CHECK.same("smaller, bilevel", Pages.shown(pages), "..\n..\n");
        pages.set(1, 1, 1);
        pages.blank(false, 40, 24);
        CHECK.same("the largest", Pages.shown(pages), (".".repeat(40) + "\n").repeat(24));
        CHECK.same("the file stays", pages.size(), size);
        CHECK.same("and what is known of it", pages.info(3), 32773);
    }

    private static void bilevelValues() {
        FaxPages pages = Pages.bilevelWithPast();
        for (int v : new int[] {1, 1, 0, 0, 1}) {
            pages.set(1, 2, v);
            CHECK.same("get", pages.get(1, 2), v);
        }
        CHECK.same("the others stay", Pages.shown(pages), "#.#\n.##\n##.\n");
    }

    private static void grayValues() {
        FaxPages pages = Pages.withPast();
        for (int v = 0; v <= 255; v++) {
            pages.set(1, 1, v);
            CHECK.same("get", pages.get(1, 1), v);
        }
        CHECK.same("the others stay", Pages.shown(pages), "11 22 33 \n44 255 255 \n");
    }

    private static void directions() {
        FaxPages pages = new FaxPages();
        pages.blank(false, 9, 2);
        pages.set(1, 0, 1);
        pages.set(8, 1, 1);
        pages.write(1, false, 2);
        CHECK.same("rows", Pages.hex(pages, 8, 12), "40 00 00 80");
        pages.blank(true, 2, 3);
        pages.set(1, 0, 5);
        pages.set(0, 2, 6);
        pages.write(1, false, 3);
        CHECK.same("rows", Pages.hex(pages, 8, 14), "00 05 00 00 06 00");
    }

    private static void setOutside() {
        int[][] bilevel = {{-1, 0}, {3, 0}, {0, -1}, {0, 3}, {3, 3}, {-1, -1}, {LEAST, 0}, {0, LEAST}, {MOST, 0},
            {0, MOST}, {MOST, MOST}};
        for (int[] place : bilevel) {
            CHECK.refuses("set " + place[0] + " " + place[1], IndexOutOfBoundsException.class, Pages.bilevelWithPast(),
                p -> p.set(place[0], place[1], 1));
        }
        int[][] gray = {{-1, 1}, {3, 0}, {0, -1}, {0, 2}, {4, -1}, {-3, 1}};
        for (int[] place : gray) {
            CHECK.refuses("set " + place[0] + " " + place[1], IndexOutOfBoundsException.class, Pages.withPast(),
                p -> p.set(place[0], place[1], 1));
        }
        FaxPages smaller = new FaxPages();
        smaller.blank(false, 40, 24);
        smaller.blank(false, 2, 2);
        CHECK.refuses("set where a larger picture had one", IndexOutOfBoundsException.class, smaller,
            p -> p.set(2, 0, 1));
    }

    private static void setNoValue() {
        for (int v : new int[] {-1, 2, 3, 255, 256, LEAST, MOST}) {
            CHECK.refuses("set " + v, IllegalArgumentException.class, Pages.bilevelWithPast(), p -> p.set(0, 0, v));
        }
        for (int v : new int[] {-1, 256, 257, -255, LEAST, MOST}) {
            CHECK.refuses("set " + v, IllegalArgumentException.class, Pages.withPast(), p -> p.set(2, 1, v));
        }
    }

    private static void setFirstWins() {
        CHECK.refuses("no pixel and no value", IndexOutOfBoundsException.class, Pages.bilevelWithPast(),
            p -> p.set(3, 0, 2));
        CHECK.refuses("no pixel and no value", IndexOutOfBoundsException.class, Pages.withPast(),
            p -> p.set(0, -1, 256));
    }

    private static void getOutside() {
        FaxPages pages = Pages.bilevelWithPast();
        CHECK.same("first", pages.get(0, 0), 1);
        CHECK.same("last of the first row", pages.get(2, 0), 1);
        CHECK.same("first of the last row", pages.get(0, 2), 1);
        CHECK.same("last", pages.get(2, 2), 0);
        int[][] none = {{-1, 0}, {0, -1}, {3, 0}, {0, 3}, {-1, 1}, {3, 2}, {MOST, MOST}, {LEAST, 1}, {1, LEAST},
            {MOST, 0}, {0, MOST}, {65536, 0}};
        for (int[] place : none) {
            CHECK.same("get " + place[0] + " " + place[1], pages.get(place[0], place[1]), FaxPages.NONE);
        }
        pages.blank(false, 40, 24);
        pages.blank(true, 4, 1);
        CHECK.same("where a larger picture had one", pages.get(4, 0), FaxPages.NONE);
        CHECK.same("where a larger picture had one", pages.get(0, 1), FaxPages.NONE);
    }

    private static void infoOfPicture() {
        FaxPages pages = new FaxPages();
        pages.blank(false, 40, 3);
        CHECK.same("bilevel", pages.info(0) * 10000 + pages.info(1) * 10 + pages.info(2), 400030);
        pages.blank(true, 7, 20);
        CHECK.same("gray", pages.info(0) * 10000 + pages.info(1) * 10 + pages.info(2), 70201);
        FileMaker.one(4, 12, 2, "1 1 000000000001 000000000001").into(pages);
        CHECK.same("a file that is not read yet says nothing", pages.info(0), 7);
        pages.read();
        CHECK.same("read", pages.info(0) * 10000 + pages.info(1) * 10 + pages.info(2), 120020);
    }

    private static void knows(String what, FaxPages pages, int... due) {
        for (int i = 0; i < due.length; i++) {
            CHECK.same(what + ": info " + (3 + i), pages.info(3 + i), due[i]);
        }
    }

    private static void infoOfFile() {
        FaxPages pages = new FaxPages();
        pages.blank(false, 2, 5);
        for (int scheme : new int[] {1, 3, 4, 5, 32773}) {
            for (int rows = 1; rows <= 5; rows++) {
                int strips = new int[] {5, 3, 2, 2, 1}[rows - 1];
                pages.write(scheme, rows % 2 == 1, rows);
                knows("written", pages, scheme, rows % 2, rows, strips);
                FaxPages other = Pages.ofBytes();
                for (int i = 0; i < pages.size(); i++) {
                    other.add(pages.at(i));
                }
                CHECK.same("read", other.read(), strips);
                knows("read", other, scheme, rows % 2, rows, strips);
            }
        }
    }

    private static void infoOfTheLast() {
        FaxPages pages = Pages.bilevelWithPast();
        knows("written", pages, 4, 1, 2, 2);
        FileMaker.one(1, 3, 2, "10100000 01000000").into(pages);
        knows("other bytes, not read yet", pages, 4, 1, 2, 2);
        pages.read();
        knows("read", pages, 1, 0, 2, 1);
        pages.put(9, 255);
        CHECK.same("read", pages.read(), FaxPages.DATA);
        knows("refused to read", pages, 1, 0, 2, 1);
        pages.cut(0);
        CHECK.same("read", pages.read(), FaxPages.HEADER);
        knows("no bytes left", pages, 1, 0, 2, 1);
        pages.blank(true, 4, 4);
        knows("another picture", pages, 1, 0, 2, 1);
        CHECK.refuses("write", IllegalStateException.class, pages, p -> p.write(3, true, 1));
        CHECK.refuses("write", IllegalArgumentException.class, pages, p -> p.write(5, true, 5));
        knows("refused to write", pages, 1, 0, 2, 1);
        pages.write(5, true, 3);
        knows("written again", pages, 5, 1, 3, 2);
    }

    private static void infoOfOthers() {
        FaxPages pages = Pages.withPast();
        for (int what : new int[] {-1, -2, 7, 8, 256, 259, 65539, LEAST, MOST}) {
            CHECK.same("info " + what, pages.info(what), FaxPages.NONE);
            CHECK.same("info " + what + " of a new object", new FaxPages().info(what), FaxPages.NONE);
        }
    }

    private static void infoOfNoFile() {
        int[] none = {FaxPages.NONE, FaxPages.NONE, FaxPages.NONE, FaxPages.NONE};
        knows("a new object", new FaxPages(), none);
        knows("never read", FileMaker.one(1, 1, 1, "1").made(), none);
        FaxPages wrong = FileMaker.one(1, 1, 1, "01").made();
        CHECK.same("read", wrong.read(), FaxPages.DATA);
        knows("refused to read", wrong, none);
        FaxPages gray = Pages.gray(1, 5);
        CHECK.refuses("write", IllegalStateException.class, gray, p -> p.write(4, true, 1));
        knows("refused to write", gray, none);
    }
}
