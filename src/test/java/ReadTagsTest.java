/** Promise 7: read, as far as the header, the tags and the places of the strips go. */
public final class ReadTagsTest {
    private static final Check CHECK = new Check();
    private static final int SHORT = FileMaker.SHORT;
    private static final int LONG = FileMaker.LONG;

    public static void main(String[] args) {
        headers();
        placesOfTags();
        order();
        missing();
        typesAndCounts();
        valuesThatCannotBe();
        sizes();
        schemes();
        linesTag();
        otherTags();
        stripTags();
        strips();
        firstFaultWins();
        CHECK.end();
    }

    private static FileMaker bilevel() {
        return FileMaker.one(1, 3, 2, "10100000 01000000");
    }

    /** Three strips of a gray picture of 2 by 5, two rows each. */
    private static FileMaker gray(boolean motorola) {
        return new FileMaker(motorola, 1, true, 2, 5, 2).strip(1, 2, 3, 4).strip(5, 6, 7, 8).strip(9, 10);
    }

    private static void answer(String what, FileMaker maker, int due) {
        answer(what, maker.made(), due);
    }

    private static void answer(String what, FaxPages pages, int due) {
        String before = Pages.state(pages);
        CHECK.same(what, pages.read(), due);
        if (due < 0) {
            CHECK.same(what + " changes nothing", Pages.state(pages), before);
        }
    }

    private static void headers() {
        FaxPages pages = bilevel().made();
        answer("good", pages, 1);
        CHECK.same("picture", Pages.shown(pages), "#.#\n.#.\n");
        int[][] faults = {{0, 77}, {1, 77}, {0, 0}, {0, 74}, {2, 43}, {3, 42}, {2, 0}, {3, 1}};
        for (int[] fault : faults) {
            int old = pages.put(fault[0], fault[1]);
            answer("header byte " + fault[0], pages, FaxPages.HEADER);
            pages.put(fault[0], old);
        }
        answer("good again", pages, 1);
        pages.put(0, 77);
        pages.put(1, 77);
        answer("42 in the other order", pages, FaxPages.HEADER);
        pages.put(2, 0);
        pages.put(3, 42);
        answer("another order's place", pages, FaxPages.TAGS);
        pages.cut(8);
        answer("eight bytes", pages, FaxPages.TAGS);
        pages.cut(7);
        answer("seven bytes", pages, FaxPages.HEADER);
        pages.cut(0);
        answer("no bytes", pages, FaxPages.HEADER);
    }

    private static void setPlace(FaxPages pages, long place) {
        for (int i = 0; i < 4; i++) {
            pages.put(4 + i, (int) (place >> 8 * i & 255));
        }
    }

    private static void placesOfTags() {
        FaxPages pages = bilevel().made();
        int size = pages.size();
        for (long place : new long[] {0, size - 6, size - 2, size - 1, size, size + 1, 0x7fffffffL, 0x80000000L,
                0xffffffffL, 0xfffffffeL, 0xfffffffaL}) {
            setPlace(pages, place);
            answer("place " + place, pages, FaxPages.TAGS);
        }
        setPlace(pages, 10);
        answer("the right place", pages, 1);
        pages.cut(size - 1);
        answer("a byte too few", pages, FaxPages.TAGS);
        pages.add(0);
        answer("all bytes", pages, 1);
        pages.add(99);
        answer("a byte too many", pages, 1);
        answer("an odd place", bilevel().gap(1), 1);
        FaxPages none = new FaxPages();
        for (int b : new int[] {73, 73, 42, 0, 8, 0, 0, 0, 0, 0, 0, 0, 0, 0}) {
            none.add(b);
        }
        answer("no tags", none, FaxPages.TAGS);
        none.put(8, 255);
        none.put(9, 255);
        answer("too many tags", none, FaxPages.TAGS);
    }

    private static void order() {
        FaxPages pages = bilevel().made();
        int tags = 10 + 2;
        answer("before", pages, 1);
        pages.put(tags + 12, 0);
        answer("the same number twice", pages, FaxPages.TAGS);
        pages.put(tags + 12, 1);
        pages.put(tags + 1, 2);
        answer("a number that is too high", pages, FaxPages.TAGS);
        answer("others not rising", fallingOthers(), FaxPages.TAGS);
        answer("LONG behind", bilevel().behind(1), FaxPages.TAGS);
        answer("LONG behind, highest byte", bilevel().behind(0x01000000L), FaxPages.TAGS);
    }

    private static FaxPages fallingOthers() {
        FaxPages pages = bilevel().tag(300, SHORT, 1).tag(301, SHORT, 1).made();
        int last = 10 + 2 + 9 * 12;
        pages.put(last, 300 & 255);
        return pages;
    }

    private static void missing() {
        for (int number : new int[] {256, 257, 258, 259, 262, 278}) {
            answer("missing " + number, bilevel().without(number), FaxPages.TAGS);
        }
        for (int number : new int[] {273, 279}) {
            FaxPages pages = bilevel().made();
            int tag = 10 + 2 + 12 * (number == 273 ? 5 : 7);
            pages.put(tag, pages.at(tag) + 1);
            answer("missing " + number, pages, FaxPages.TAGS);
        }
    }

    private static void typesAndCounts() {
        FaxPages good = new FileMaker(true, 1, false, 3, 1, 1).tag(256, LONG, 3).tag(257, LONG, 1).tag(258, LONG, 1)
            .tag(259, LONG, 1).tag(262, LONG, 0).tag(278, LONG, 1).tag(292, SHORT, 1).stripTypes(SHORT, SHORT)
            .strip("101").made();
        answer("each number of the other type", good, 1);
        CHECK.same("picture", Pages.shown(good), "#.#\n");
        for (int index = 0; index < 8; index++) {
            FaxPages pages = bilevel().made();
            int tag = 10 + 2 + 12 * index;
            int type = pages.at(tag + 2);
            for (int wrong : new int[] {0, 1, 2, 5, 255}) {
                pages.put(tag + 2, wrong);
                answer("type " + wrong + " of tag " + index, pages, FaxPages.TAGS);
            }
            pages.put(tag + 2, type);
            pages.put(tag + 3, 1);
            answer("high byte of the type of tag " + index, pages, FaxPages.TAGS);
            pages.put(tag + 3, 0);
            for (int wrong : new int[] {0, 2, 255}) {
                pages.put(tag + 4, wrong);
                answer("count " + wrong + " of tag " + index, pages, FaxPages.TAGS);
            }
            pages.put(tag + 4, 1);
            pages.put(tag + 7, 128);
            answer("high byte of the count of tag " + index, pages, FaxPages.TAGS);
            pages.put(tag + 7, 0);
            answer("as it was", pages, 1);
        }
        FaxPages filled = bilevel().made();
        filled.put(10 + 2 + 10, 7);
        answer("what stands behind a SHORT says nothing", filled, 1);
    }

    private static void valuesThatCannotBe() {
        answer("bits 0", bilevel().tag(258, SHORT, 0), FaxPages.TAGS);
        answer("bits 2", bilevel().tag(258, SHORT, 2), FaxPages.TAGS);
        answer("bits 8 and 262 0", bilevel().tag(258, SHORT, 8), FaxPages.TAGS);
        answer("bits 257", bilevel().tag(258, SHORT, 257), FaxPages.TAGS);
        answer("262 1 and bits 1", bilevel().tag(262, SHORT, 1), FaxPages.TAGS);
        answer("262 2", bilevel().tag(262, SHORT, 2), FaxPages.TAGS);
        answer("262 0 and gray", gray(false).tag(262, SHORT, 0), FaxPages.TAGS);
        answer("rows 0", bilevel().tag(278, SHORT, 0), FaxPages.TAGS);
        answer("rows 3", bilevel().tag(278, SHORT, 3), FaxPages.TAGS);
        answer("rows of a far LONG", bilevel().tag(278, LONG, 0xffffffffL), FaxPages.TAGS);
        answer("rows 1, but one strip", bilevel().tag(278, SHORT, 1), FaxPages.TAGS);
        answer("width of a far LONG", bilevel().tag(256, LONG, 0xffffffffL), FaxPages.TAGS);
        answer("width of a far LONG", bilevel().tag(256, LONG, 0x80000003L), FaxPages.TAGS);
    }

    private static void sizes() {
        answer("40 by 1", FileMaker.one(1, 40, 1, "0".repeat(40)), 1);
        answer("41 by 1", FileMaker.one(1, 41, 1, "0".repeat(48)), FaxPages.TAGS);
        answer("0 by 1", FileMaker.one(1, 0, 1, ""), FaxPages.TAGS);
        answer("1 by 24", FileMaker.one(1, 1, 24, "0".repeat(192)), 1);
        answer("1 by 25", FileMaker.one(1, 1, 25, "0".repeat(200)), FaxPages.TAGS);
        answer("1 by 0", FileMaker.one(1, 1, 0, "").tag(278, SHORT, 1), FaxPages.TAGS);
        answer("gray 20 by 20", new FileMaker(false, 1, true, 20, 20, 20).strip(new int[400]), 1);
        answer("gray 21 by 1", new FileMaker(false, 1, true, 21, 1, 1).strip(new int[21]), FaxPages.TAGS);
        answer("gray 1 by 21", new FileMaker(false, 1, true, 1, 21, 21).strip(new int[21]), FaxPages.TAGS);
    }

    private static void schemes() {
        for (int scheme : new int[] {0, 2, 6, 7, 32772, 32774, 65535}) {
            answer("scheme " + scheme, bilevel().tag(259, SHORT, scheme), FaxPages.TAGS);
        }
        answer("scheme of a far LONG", bilevel().tag(259, LONG, 0x00010001L), FaxPages.TAGS);
        for (int scheme : new int[] {3, 4}) {
            answer("gray and a fax scheme", gray(false).tag(259, SHORT, scheme).tag(292, LONG, 1), FaxPages.TAGS);
        }
    }

    private static void linesTag() {
        String line = "000000000001 1 1000";
        answer("G3", FileMaker.one(3, 3, 1, line), 1);
        answer("G3 without 292", FileMaker.one(3, 3, 1, line).without(292), FaxPages.TAGS);
        answer("G3 and 292 SHORT", FileMaker.one(3, 3, 1, line).tag(292, SHORT, 1), 1);
        answer("G3 and 292 0", FileMaker.one(3, 3, 1, line).tag(292, LONG, 0), FaxPages.TAGS);
        answer("G3 and 292 5", FileMaker.one(3, 3, 1, line).tag(292, LONG, 5), FaxPages.TAGS);
        answer("G3 and two 292s", FileMaker.one(3, 3, 1, line).count(292, 2), FaxPages.TAGS);
        answer("292 1 with another scheme", bilevel().tag(292, LONG, 1), 1);
        answer("292 0 with another scheme", bilevel().tag(292, LONG, 0), FaxPages.TAGS);
        answer("292 of another type", bilevel().tag(292, 2, 1), FaxPages.TAGS);
        answer("292 with another count", bilevel().tag(292, LONG, 1).count(292, 0), FaxPages.TAGS);
    }

    private static void otherTags() {
        answer("others", bilevel().tag(0, 77, 1).tag(254, 0, 9).tag(277, SHORT, 5).count(277, 0xffffffffL)
            .tag(282, 5, 0).tag(65535, LONG, 0xffffffffL).count(65535, 4000), 1);
    }

    private static void stripTags() {
        for (boolean motorola : new boolean[] {false, true}) {
            for (int type : new int[] {SHORT, LONG}) {
                FaxPages pages = gray(motorola).stripTypes(type, SHORT + LONG - type).made();
                answer("three strips", pages, 3);
                CHECK.same("picture", Pages.shown(pages), "1 2 \n3 4 \n5 6 \n7 8 \n9 10 \n");
                CHECK.same("order", pages.info(4), motorola ? 1 : 0);
                CHECK.same("rows", pages.info(5), 2);
                CHECK.same("strips", pages.info(6), 3);
            }
            FaxPages two = new FileMaker(motorola, 1, true, 1, 2, 1).strip(7).strip(8).stripTypes(SHORT, SHORT)
                .gap(300).made();
            answer("two SHORTs stand in the tag", two, 2);
            CHECK.same("picture", Pages.shown(two), "7 \n8 \n");
        }
        for (int number : new int[] {273, 279}) {
            for (long count : new long[] {0, 1, 2, 4, 0x80000003L}) {
                answer("count " + count, gray(false).tag(273, LONG, 8, 12, 16).tag(279, LONG, 4, 4, 2)
                    .count(number, count), FaxPages.TAGS);
            }
        }
        answer("as many as it has", gray(false).tag(273, LONG, 8, 12, 16).tag(279, LONG, 4, 4, 2), 3);
        FaxPages pages = gray(false).made();
        int places = 18 + 2 + 12 * 5 + 8;
        int size = pages.size();
        for (long far : new long[] {size - 11, size, 0x7fffffffL, 0xfffffff0L, 0xffffffffL}) {
            for (int i = 0; i < 4; i++) {
                pages.put(places + i, (int) (far >> 8 * i & 255));
            }
            answer("values at " + far, pages, FaxPages.TAGS);
        }
        for (int i = 0; i < 4; i++) {
            pages.put(places + i, size - 12 >> 8 * i & 255);
        }
        // These are the sizes, which are places in the file too.
        answer("values up to the file's end", pages, 3);
    }

    private static void strips() {
        for (long place : new long[] {0x7fffffffL, 0x80000000L, 0xffffffffL, 0xfffffffeL, 2000, 200}) {
            answer("strip at " + place, bilevel().tag(273, LONG, place), FaxPages.STRIPS);
            answer("strip of " + place, bilevel().tag(279, LONG, place), FaxPages.STRIPS);
        }
        int size = bilevel().made().size();
        answer("the last bytes", bilevel().tag(273, LONG, size - 2), 1);
        answer("one byte behind", bilevel().tag(273, LONG, size - 1), FaxPages.STRIPS);
        answer("the whole file", bilevel().tag(273, LONG, 0).tag(279, LONG, size), FaxPages.DATA);
        answer("more than the whole file", bilevel().tag(273, LONG, 0).tag(279, LONG, size + 1), FaxPages.STRIPS);
        answer("nothing at the end", bilevel().tag(273, LONG, size).tag(279, LONG, 0), FaxPages.DATA);
        answer("nothing behind the end", bilevel().tag(273, LONG, size + 1).tag(279, LONG, 0), FaxPages.STRIPS);
        answer("two strips in one place", new FileMaker(true, 1, true, 2, 2, 1).strip(5, 6)
            .tag(273, SHORT, 8, 8).tag(279, SHORT, 2, 2), 2);
    }

    private static void firstFaultWins() {
        answer("tags before strips", bilevel().tag(273, LONG, 2000).behind(1), FaxPages.TAGS);
        answer("strips before data", gray(false).tag(273, LONG, 8, 12, 1999).tag(279, LONG, 3, 4, 2),
            FaxPages.STRIPS);
        answer("data of the last strip", gray(false).tag(273, LONG, 8, 12, 16).tag(279, LONG, 4, 4, 3),
            FaxPages.DATA);
        FaxPages pages = bilevel().tag(273, LONG, 2000).behind(1).made();
        pages.put(0, 1);
        answer("header before tags", pages, FaxPages.HEADER);
    }
}
