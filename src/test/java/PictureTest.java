/** Promises 1 to 5: a new object, blank, set, get, info. */
public final class PictureTest {
    private static final Check CHECK = new Check();

    public static void main(String[] args) {
        newObject();
        blankSizes();
        blankClears();
        setAndGet();
        wrongSets();
        infoOfFile();
        CHECK.end();
    }

    private static void newObject() {
        FaxPages pages = new FaxPages();
        CHECK.same("width", pages.info(0), 1);
        CHECK.same("height", pages.info(1), 1);
        CHECK.same("gray", pages.info(2), 0);
        CHECK.same("pixel", pages.get(0, 0), 0);
        CHECK.same("size", pages.size(), 0);
        CHECK.same("at(0)", pages.at(0), FaxPages.NONE);
        CHECK.same("read", pages.read(), FaxPages.HEADER);
        for (int what = 3; what <= 6; what++) {
            CHECK.same("info " + what, pages.info(what), FaxPages.NONE);
        }
    }

    private static void blankSizes() {
        for (boolean gray : new boolean[] {false, true}) {
            int widest = gray ? 20 : 40;
            int highest = gray ? 20 : 24;
            int[][] good = {{1, 1}, {widest, highest}, {1, highest}, {widest, 1}, {7, 3}};
            int[][] bad = {{0, 1}, {1, 0}, {widest + 1, 1}, {1, highest + 1}, {-1, 1}, {1, -1},
                {Integer.MIN_VALUE, 1}, {1, Integer.MAX_VALUE}};
            for (int[] size : good) {
                FaxPages pages = new FaxPages();
                pages.blank(gray, size[0], size[1]);
                CHECK.same("width", pages.info(0), size[0]);
                CHECK.same("height", pages.info(1), size[1]);
                CHECK.same("gray", pages.info(2), gray ? 1 : 0);
                CHECK.same("last pixel", pages.get(size[0] - 1, size[1] - 1), 0);
                CHECK.same("behind it", pages.get(size[0], size[1] - 1), FaxPages.NONE);
            }
            for (int[] size : bad) {
                FaxPages pages = Pages.gray(2, 1, 2, 3, 4);
                String before = Pages.state(pages);
                CHECK.raises("blank " + size[0] + " " + size[1], IllegalArgumentException.class,
                        () -> pages.blank(gray, size[0], size[1]));
                CHECK.same("state", Pages.state(pages), before);
            }
        }
    }

    private static void blankClears() {
        FaxPages pages = Pages.gray(2, 9, 9, 9, 9);
        pages.write(1, true, 1);
        int size = pages.size();
        pages.blank(true, 3, 1);
        CHECK.same("blank", Pages.shown(pages), "0 0 0 \n");
        CHECK.same("the file stays", pages.size(), size);
        CHECK.same("so does what is known of it", pages.info(6), 2);
        pages.blank(false, 2, 2);
        CHECK.same("blank", Pages.shown(pages), "..\n..\n");
    }

    private static void setAndGet() {
        FaxPages pages = new FaxPages();
        pages.blank(true, 20, 20);
        for (int i = 0; i < 400; i++) {
            pages.set(i % 20, i / 20, i % 256);
        }
        for (int i = 0; i < 400; i++) {
            CHECK.same("get " + i, pages.get(i % 20, i / 20), i % 256);
        }
        pages.blank(false, 40, 24);
        pages.set(39, 23, 1);
        pages.set(39, 0, 1);
        pages.set(39, 0, 0);
        CHECK.same("last", pages.get(39, 23), 1);
        CHECK.same("set back", pages.get(39, 0), 0);
        CHECK.same("next row", pages.get(0, 1), 0);
        int[][] none = {{-1, 0}, {0, -1}, {40, 0}, {0, 24}, {Integer.MAX_VALUE, Integer.MAX_VALUE},
            {Integer.MIN_VALUE, 1}};
        for (int[] place : none) {
            CHECK.same("get", pages.get(place[0], place[1]), FaxPages.NONE);
        }
    }

    private static void wrongSets() {
        FaxPages pages = Pages.bilevel(".#.", "#..");
        String before = Pages.state(pages);
        int[][] places = {{-1, 0}, {3, 0}, {0, -1}, {0, 2}};
        for (int[] place : places) {
            CHECK.raises("set outside", IndexOutOfBoundsException.class, () -> pages.set(place[0], place[1], 1));
            CHECK.raises("set outside wins", IndexOutOfBoundsException.class,
                    () -> pages.set(place[0], place[1], 2));
        }
        for (int v : new int[] {-1, 2, 255, Integer.MIN_VALUE}) {
            CHECK.raises("set " + v, IllegalArgumentException.class, () -> pages.set(0, 0, v));
        }
        CHECK.same("state", Pages.state(pages), before);
        FaxPages gray = Pages.gray(1, 5);
        for (int v : new int[] {-1, 256, Integer.MAX_VALUE}) {
            CHECK.raises("set " + v, IllegalArgumentException.class, () -> gray.set(0, 0, v));
        }
        CHECK.same("gray pixel", gray.get(0, 0), 5);
        gray.set(0, 0, 255);
        CHECK.same("gray pixel", gray.get(0, 0), 255);
    }

    private static void infoOfFile() {
        FaxPages pages = Pages.bilevel("#.", "##", "..", ".#", "##");
        pages.write(3, true, 2);
        int[] due = {2, 5, 0, 3, 1, 2, 3, FaxPages.NONE};
        for (int what = 0; what < due.length; what++) {
            CHECK.same("info " + what, pages.info(what), due[what]);
        }
        CHECK.same("info -1", pages.info(-1), FaxPages.NONE);
        CHECK.same("info of the least", pages.info(Integer.MIN_VALUE), FaxPages.NONE);
        FaxPages other = FileMaker.one(1, 3, 2, "10100000 01000000").made();
        CHECK.same("not read yet", other.info(3), FaxPages.NONE);
        other.read();
        CHECK.same("scheme", other.info(3), 1);
        CHECK.same("order", other.info(4), 0);
        CHECK.same("rows", other.info(5), 2);
        CHECK.same("strips", other.info(6), 1);
        other.cut(0);
        CHECK.same("a file read that fails is not known", other.read(), FaxPages.HEADER);
        CHECK.same("rows", other.info(5), 2);
    }
}
