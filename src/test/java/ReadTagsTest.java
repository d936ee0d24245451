/** Promise 7: read, as far as the header, the tags and the places of the strips go; sentence by sentence. */
public final class ReadTagsTest {
    private static final Check CHECK = new Check();
    private static final int SHORT = FileMaker.SHORT;
    private static final int LONG = FileMaker.LONG;
    private static final String G3_LINE = "000000000001 1 1000";
    private static final int HEADER = FaxPages.HEADER;
    private static final int TAGS = FaxPages.TAGS;
    private static final int STRIPS = FaxPages.STRIPS;
    private static final int DATA = FaxPages.DATA;

    public static void main(String[] args) {
        CHECK.sentence("the picture becomes what it says; how many strips it has.", ReadTagsTest::becomesWhatItSays);
        CHECK.sentence("HEADER: less than 8 bytes", ReadTagsTest::tooShort);
        CHECK.sentence("or its beginning is another one", ReadTagsTest::otherBeginnings);
        CHECK.sentence("(but for the place)", ReadTagsTest::anyPlace);

        CHECK.sentence("TAGS: not all their bytes are in the file", ReadTagsTest::tagsOutside);
        CHECK.sentence("not by rising numbers", ReadTagsTest::notRising);
        CHECK.sentence("the LONG behind is not 0", ReadTagsTest::longBehind);
        CHECK.sentence("SHORT type (3 SHORT, 4 LONG)", ReadTagsTest::bothTypes);
        CHECK.sentence("one of the nine numbers has another type", ReadTagsTest::otherTypes);
        CHECK.sentence("a count that is not 1", ReadTagsTest::otherCounts);
        CHECK.sentence("(for strips: not the number of these)", ReadTagsTest::otherStripCounts);
        CHECK.sentence("the values from their beginning on if they fit in (0 behind), otherwise the LONG place"
            + " where they are", ReadTagsTest::placesOfValues);
        CHECK.sentence("or values outside the file", ReadTagsTest::valuesOutside);
        CHECK.sentence("one is missing", ReadTagsTest::missing);
        CHECK.sentence("(292 only with G3 may not)", ReadTagsTest::missingLinesTag);
        CHECK.sentence("has a value that cannot be (sizes", ReadTagsTest::sizes);
        CHECK.sentence("bits, .. 262", ReadTagsTest::kinds);
        CHECK.sentence("scheme", ReadTagsTest::schemes);
        CHECK.sentence("278 not 1 .. height", ReadTagsTest::rows);
        CHECK.sentence("292 not 1)", ReadTagsTest::linesTag);
        CHECK.sentence("Other numbers may stand, whatever they have.", ReadTagsTest::otherNumbers);

        CHECK.sentence("STRIPS: one is not within the file.", ReadTagsTest::stripsOutside);
        CHECK.sentence("READING finds what a file says, in this order", ReadTagsTest::firstFaultWins);
        CHECK.end();
    }

    private static FileMaker bilevel() {
        return FileMaker.one(1, 3, 2, "10100000 01000000");
    }

    /** Three strips of a gray picture of 2 by 5, two rows each, at 8, 12 and 16. */
    private static FileMaker gray(boolean motorola) {
        return new FileMaker(motorola, 1, true, 2, 5, 2).strip(1, 2, 3, 4).strip(5, 6, 7, 8).strip(9, 10);
    }

    private static FileMaker g3() {
        return FileMaker.one(3, 3, 1, G3_LINE);
    }

    private static void refused(String what, FileMaker maker, int due) {
        CHECK.readRefuses(what, maker.into(Pages.withPast()), due);
    }

    private static void held(String what, FileMaker maker, int strips) {
        CHECK.same(what + ": read", maker.into(Pages.withPast()).read(), strips);
    }

    private static void becomesWhatItSays() {
        FaxPages pages = bilevel().into(Pages.withPast());
        for (int i = 0; i < 2; i++) {
            CHECK.same("read", pages.read(), 1);
            CHECK.same("bilevel", Pages.shown(pages), "#.#\n.#.\n");
        }
        for (boolean motorola : new boolean[] {false, true}) {
            gray(motorola).into(pages);
            CHECK.same("strips", pages.read(), 3);
            CHECK.same("gray", Pages.shown(pages), "1 2 \n3 4 \n5 6 \n7 8 \n9 10 \n");
            CHECK.same("order", pages.info(4), motorola ? 1 : 0);
        }
        FileMaker most = new FileMaker(true, 1, false, 40, 24, 1);
        for (int y = 0; y < 24; y++) {
            most.strip(y, 0, 0, 0, 255);
        }
        CHECK.same("the most strips", most.into(pages).read(), 24);
        CHECK.same("the last row", pages.get(3, 23) * 10 + pages.get(4, 23), 10);
        CHECK.same("of the largest picture", pages.info(0) * 100 + pages.info(1), 4024);
        String bytes = Pages.hex(pages, 0, pages.size());
        pages.set(0, 0, 1);
        CHECK.same("the file stays", Pages.hex(pages, 0, pages.size()), bytes);
        FaxPages late = FileMaker.one(1, 2, 1, "").tag(273, LONG, 110).tag(279, LONG, 1).made();
        CHECK.same("size", late.size(), 110);
        late.add(64);
        CHECK.same("a strip behind the tags", late.read(), 1);
        CHECK.same("its pixels", Pages.shown(late), ".#\n");
        FaxPages turned = gray(true).tag(273, SHORT, 12, 8, 14).made();
        CHECK.same("strips in any places", turned.read(), 3);
        CHECK.same("their pixels", Pages.shown(turned), "5 6 \n7 8 \n1 2 \n3 4 \n7 8 \n");
    }

    private static void tooShort() {
        for (boolean motorola : new boolean[] {false, true}) {
            for (int size = 0; size <= 7; size++) {
                FaxPages pages = gray(motorola).into(Pages.withPast());
                pages.cut(size);
                CHECK.readRefuses(size + " bytes", pages, HEADER);
            }
            FaxPages eight = gray(motorola).into(Pages.withPast());
            eight.cut(8);
            CHECK.readRefuses("8 bytes", eight, TAGS);
        }
        CHECK.readRefuses("wrong, and too short", Pages.ofBytes(1, 2, 3), HEADER);
    }

    private static void otherBeginnings() {
        for (boolean motorola : new boolean[] {false, true}) {
            FaxPages pages = gray(motorola).made();
            for (int i = 0; i < 4; i++) {
                int good = pages.at(i);
                for (int b = 0; b <= 255; b++) {
                    pages.put(i, b);
                    CHECK.same("byte " + i + " is " + b, pages.read(), b == good ? 3 : HEADER);
                }
                pages.put(i, good);
            }
        }
        int[][] others = {{73, 73, 0, 42}, {77, 77, 42, 0}, {73, 77, 42, 0}, {77, 73, 0, 42}, {105, 105, 42, 0},
            {0, 0, 42, 0}, {73, 73, 43, 0}, {77, 77, 1, 42}, {42, 0, 73, 73}};
        for (int[] begin : others) {
            FaxPages pages = gray(false).into(Pages.withPast());
            for (int i = 0; i < 4; i++) {
                pages.put(i, begin[i]);
            }
            CHECK.readRefuses("another beginning", pages, HEADER);
        }
    }

    private static void setLong(FaxPages pages, int place, long value) {
        for (int i = 0; i < 4; i++) {
            pages.put(place + i, (int) (value >> 8 * i & 255));
        }
    }

    private static void anyPlace() {
        for (long place : new long[] {0, 1, 7, 8, 2000, 0x7fffffffL, 0x80000000L, 0xffffffffL}) {
            FaxPages pages = bilevel().into(Pages.withPast());
            setLong(pages, 4, place);
            CHECK.readRefuses("place " + place, pages, TAGS);
        }
        held("an odd place", bilevel().gap(1), 1);
        held("another even place", bilevel().gap(300), 1);
        FaxPages atOnce = FileMaker.one(1, 2, 1, "").tag(273, LONG, 1).tag(279, LONG, 1).made();
        CHECK.same("the tags' place", atOnce.at(4), 8);
        CHECK.same("tags at once, a strip in the header", atOnce.read(), DATA);
        CHECK.same("its pixels", FileMaker.one(1, 8, 1, "").tag(273, LONG, 1).tag(279, LONG, 1).made().read(), 1);
    }

    private static void tagsOutside() {
        FaxPages pages = bilevel().made();
        int size = pages.size();
        for (int cut = size - 1; cut >= 8; cut--) {
            pages.cut(cut);
            CHECK.same("only " + cut + " bytes", pages.read(), TAGS);
        }
        for (long place : new long[] {size - 1, size - 2, size - 3, size - 6, size, size + 1, 1999, 2000,
            0x7fffffffL, 0x7ffffffeL, 0x80000000L, 0x8000000aL, 0xffffffffL, 0xfffffffeL, 0xfffffffaL, 0x0001000aL}) {
            FaxPages far = bilevel().into(Pages.withPast());
            setLong(far, 4, place);
            CHECK.readRefuses("place " + place, far, TAGS);
        }
        FaxPages many = bilevel().into(Pages.withPast());
        many.put(10, 9);
        CHECK.readRefuses("one tag more than there are", many, TAGS);
        many.put(10, 255);
        many.put(11, 255);
        CHECK.readRefuses("the most tags", many, TAGS);
        FaxPages none = Pages.ofBytes(73, 73, 42, 0, 8, 0, 0, 0, 0, 0, 0, 0, 0, 0);
        CHECK.readRefuses("no tags", none, TAGS);
        FaxPages all = bilevel().made();
        all.add(99);
        CHECK.same("a byte more than the tags'", all.read(), 1);
    }

    private static void notRising() {
        for (int nth = 1; nth < 9; nth++) {
            FaxPages twice = g3().into(Pages.withPast());
            int tag = 8 + 3 + 2 + 12 * nth;
            int before = twice.at(tag - 12);
            twice.put(tag, before);
            CHECK.readRefuses("the number of tag " + nth + " twice", twice, TAGS);
            FaxPages falls = g3().into(Pages.withPast());
            falls.put(tag - 12, falls.at(tag));
            falls.put(tag, before);
            CHECK.readRefuses("tag " + nth + " before the other", falls, TAGS);
        }
        held("others, rising", bilevel().tag(300, SHORT, 1).tag(301, SHORT, 1), 1);
        int last = 10 + 2 + 9 * 12;
        for (int low : new int[] {300 & 255, 299 & 255}) {
            FaxPages others = bilevel().tag(300, SHORT, 1).tag(301, SHORT, 1).into(Pages.withPast());
            others.put(last, low);
            CHECK.readRefuses("others, not rising", others, TAGS);
        }
        FaxPages first = bilevel().tag(1, SHORT, 1).tag(2, SHORT, 1).into(Pages.withPast());
        first.put(10 + 2, 2);
        CHECK.readRefuses("others at first, the same", first, TAGS);
        FaxPages highest = bilevel().tag(65534, SHORT, 1).tag(65535, SHORT, 1).into(Pages.withPast());
        CHECK.same("the highest", highest.read(), 1);
        highest.put(last + 1, 0);
        CHECK.readRefuses("not above 65534", highest, TAGS);
    }

    private static void longBehind() {
        for (long behind : new long[] {1, 8, 0x100, 0x10000, 0x01000000L, 0x80000000L, 0xffffffffL}) {
            refused("behind: " + behind, bilevel().behind(behind), TAGS);
            refused("behind: " + behind, gray(true).behind(behind), TAGS);
        }
        held("behind: 0", bilevel().behind(0), 1);
    }

    private static void bothTypes() {
        for (int type : new int[] {SHORT, LONG}) {
            for (boolean motorola : new boolean[] {false, true}) {
                FaxPages pages = new FileMaker(motorola, 3, false, 3, 1, 1).tag(256, type, 3).tag(257, type, 1)
                    .tag(258, type, 1).tag(259, type, 3).tag(262, type, 0).tag(278, type, 1).tag(292, type, 1)
                    .stripTypes(type, SHORT + LONG - type).strip(G3_LINE).made();
                CHECK.same("read", pages.read(), 1);
                CHECK.same("picture", Pages.shown(pages), "...\n");
                pages = new FileMaker(motorola, 32773, true, 2, 1, 1).tag(259, type, 32773).strip(255, 9).made();
                CHECK.same("a scheme above 32767", pages.read(), 1);
                CHECK.same("scheme", pages.info(3), 32773);
            }
        }
    }

    private static void otherTypes() {
        for (int nth = 0; nth < 9; nth++) {
            int place = 8 + 3 + 2 + 12 * nth + 2;
            for (int type = 0; type <= 20; type++) {
                FaxPages pages = g3().made();
                pages.put(place, type);
                CHECK.same("type " + type + " of tag " + nth, pages.read(), type == SHORT || type == LONG ? 1 : TAGS);
            }
            FaxPages high = g3().into(Pages.withPast());
            high.put(place + 1, 1);
            CHECK.readRefuses("type above 255 of tag " + nth, high, TAGS);
            high.put(place + 1, high.put(place, 0));
            CHECK.readRefuses("type in the other order of tag " + nth, high, TAGS);
        }
    }

    private static void otherCounts() {
        for (int number : new int[] {256, 257, 258, 259, 262, 278, 292}) {
            for (long count : new long[] {0, 2, 3, 255, 256, 257, 0x10001L, 0x01000001L, 0x80000001L, 0xffffffffL}) {
                refused("count " + count + " of " + number, g3().count(number, count), TAGS);
            }
            held("count 1 of " + number, g3().count(number, 1), 1);
        }
        refused("292 with another scheme", bilevel().tag(292, LONG, 1).count(292, 0), TAGS);
    }

    private static FileMaker grayWithLists(int type) {
        return gray(false).tag(273, type, 8, 12, 16).tag(279, type, 4, 4, 2);
    }

    private static void otherStripCounts() {
        for (int number : new int[] {273, 279}) {
            for (int type : new int[] {SHORT, LONG}) {
                for (long count : new long[] {0, 1, 2, 4, 5, 259, 0x10003L, 0x80000003L, 0xffffffffL}) {
                    refused("count " + count, grayWithLists(type).count(number, count), TAGS);
                }
                held("count 3", grayWithLists(type).count(number, 3), 3);
            }
            refused("none for one strip", bilevel().tag(number, LONG, 8).count(number, 0), TAGS);
            refused("two for one strip", bilevel().tag(number, SHORT, 8, 8), TAGS);
        }
        refused("one for two strips", bilevel().tag(278, SHORT, 1), TAGS);
    }

    private static void placesOfValues() {
        for (boolean motorola : new boolean[] {false, true}) {
            for (int type : new int[] {SHORT, LONG}) {
                FaxPages three = gray(motorola).stripTypes(type, SHORT + LONG - type).made();
                CHECK.same("three, elsewhere", three.read(), 3);
                CHECK.same("picture", Pages.shown(three), "1 2 \n3 4 \n5 6 \n7 8 \n9 10 \n");
                FaxPages two = new FileMaker(motorola, 1, true, 1, 2, 1).strip(7).strip(8).stripTypes(type, type)
                    .gap(300).made();
                CHECK.same("two", two.read(), 2);
                CHECK.same("picture", Pages.shown(two), "7 \n8 \n");
                CHECK.same("two SHORTs stand in the tag: size", two.size(), 310 + 102 + (type == SHORT ? 0 : 16));
                FaxPages one = new FileMaker(motorola, 1, true, 1, 1, 1).strip(7).stripTypes(type, type).gap(300).made();
                CHECK.same("one", one.read(), 1);
                CHECK.same("picture", Pages.shown(one), "7 \n");
            }
            FaxPages filled = new FileMaker(motorola, 1, false, 3, 2, 2).strip(160, 64).made();
            filled.put(10 + 2 + 10, 7);
            CHECK.same("what stands behind a SHORT is not its value", filled.read(), 1);
        }
    }

    private static void valuesOutside() {
        for (int number : new int[] {273, 279}) {
            for (int type : new int[] {SHORT, LONG}) {
                int many = type == SHORT ? 6 : 12;
                int size = grayWithLists(type).made().size();
                int value = 18 + 2 + 12 * (number == 273 ? 5 : 7) + 8;
                for (long place : new long[] {size - many + 1, size - 1, size, 2000, 0x7fffffffL, 0x7ffffff8L,
                    0x80000000L, 0xfffffff0L, 0xfffffff4L, 0xffffffffL}) {
                    FaxPages pages = grayWithLists(type).into(Pages.withPast());
                    setLong(pages, value, place);
                    CHECK.readRefuses("values of " + number + " at " + place, pages, TAGS);
                }
            }
        }
        FaxPages last = grayWithLists(LONG).made();
        setLong(last, 18 + 2 + 12 * 5 + 8, last.size() - 12);
        // These are the sizes, which are places in the file too.
        CHECK.same("values up to the file's end", last.read(), 3);
        last.cut(last.size() - 1);
        CHECK.readRefuses("a byte less", last, TAGS);
        FaxPages first = grayWithLists(LONG).made();
        setLong(first, 18 + 2 + 12 * 5 + 8, 0);
        CHECK.readRefuses("values at 0, which are no places", first, STRIPS);
    }

    private static void missing() {
        for (int number : new int[] {256, 257, 258, 259, 262, 273, 278, 279}) {
            refused("missing " + number, bilevel().without(number), TAGS);
            refused("missing " + number + ", others stand", bilevel().without(number).tag(number == 256 ? 255 : 277,
                SHORT, 1), TAGS);
            refused("missing " + number, g3().without(number), TAGS);
        }
        held("none is missing", bilevel(), 1);
    }

    private static void missingLinesTag() {
        refused("G3", g3().without(292), TAGS);
        held("G3", g3(), 1);
        held("NONE", bilevel().without(292), 1);
        held("RUNS", new FileMaker(true, 32773, true, 2, 1, 1).strip(255, 9), 1);
        held("TABLE", FileMaker.one(5, 1, 1, Pages.codes(9, 256, 0, 257)), 1);
        held("G4", FileMaker.one(4, 1, 1, "1 000000000001 000000000001"), 1);
    }

    private static FileMaker ofSize(boolean gray, int width, int height, int bytes) {
        return new FileMaker(false, 1, gray, width, height, Math.max(1, height)).strip(new int[bytes]);
    }

    private static void sizes() {
        held("40 by 24", ofSize(false, 40, 24, 120), 1);
        held("1 by 1", ofSize(false, 1, 1, 1), 1);
        refused("41 by 24", ofSize(false, 41, 24, 144), TAGS);
        refused("40 by 25", ofSize(false, 40, 25, 125), TAGS);
        refused("0 by 1", ofSize(false, 0, 1, 0), TAGS);
        refused("1 by 0", ofSize(false, 1, 0, 0), TAGS);
        held("gray, 20 by 20", ofSize(true, 20, 20, 400), 1);
        held("gray, 1 by 1", ofSize(true, 1, 1, 1), 1);
        refused("gray, 21 by 20", ofSize(true, 21, 20, 420), TAGS);
        refused("gray, 20 by 21", ofSize(true, 20, 21, 420), TAGS);
        refused("gray, 40 by 1", ofSize(true, 40, 1, 40), TAGS);
        refused("gray, 0 by 1", ofSize(true, 0, 1, 0), TAGS);
        refused("gray, 1 by 0", ofSize(true, 1, 0, 0), TAGS);
        for (int number : new int[] {256, 257}) {
            for (long value : new long[] {0xffffffffL, 0x80000002L, 0x10002L, 0x7fffffffL, 258}) {
                refused("size " + value, bilevel().tag(number, LONG, value), TAGS);
                refused("size " + value, gray(true).tag(number, LONG, value), TAGS);
            }
            refused("size 65535", bilevel().tag(number, SHORT, 65535), TAGS);
        }
    }

    private static void kinds() {
        for (int bits : new int[] {0, 1, 2, 4, 7, 8, 9, 16, 257, 264, 65535}) {
            for (int colours : new int[] {0, 1, 2, 3, 8, 256, 257, 65535}) {
                FaxPages pages = ofSize(bits == 8, 8, 1, bits == 8 ? 8 : 1).tag(258, SHORT, bits)
                    .tag(262, SHORT, colours).into(Pages.withPast());
                if (bits == 1 && colours == 0 || bits == 8 && colours == 1) {
                    CHECK.same("bits " + bits + ", 262 " + colours, pages.read(), 1);
                    CHECK.same("gray", pages.info(2), colours);
                } else {
                    CHECK.readRefuses("bits " + bits + ", 262 " + colours, pages, TAGS);
                }
            }
        }
        refused("bits 1 and much more", bilevel().tag(258, LONG, 0x10001L), TAGS);
        refused("262 0 and much more", bilevel().tag(262, LONG, 0x10000L), TAGS);
    }

    private static void schemes() {
        for (int scheme : new int[] {0, 2, 6, 7, 8, 32771, 32772, 32774, 65535, 259}) {
            refused("scheme " + scheme, bilevel().tag(259, SHORT, scheme), TAGS);
            refused("gray, scheme " + scheme, gray(true).tag(259, SHORT, scheme), TAGS);
        }
        for (long scheme : new long[] {0x10001L, 0x10004L, 0x80000001L, 0xffffffffL}) {
            refused("scheme " + scheme, bilevel().tag(259, LONG, scheme), TAGS);
        }
        for (int scheme : new int[] {3, 4}) {
            refused("gray, scheme " + scheme, gray(false).tag(259, SHORT, scheme).tag(292, LONG, 1), TAGS);
        }
    }

    private static void rows() {
        refused("0", bilevel().tag(278, SHORT, 0), TAGS);
        refused("0, and no strips", bilevel().tag(278, SHORT, 0).tag(273, LONG, 8).count(273, 0).tag(279, LONG, 2)
            .count(279, 0), TAGS);
        refused("above the height", bilevel().tag(278, SHORT, 3), TAGS);
        refused("above the height of 24", ofSize(false, 1, 24, 24).tag(278, SHORT, 25), TAGS);
        for (long rows : new long[] {0xffffffffL, 0x80000002L, 0x10002L, 258}) {
            refused("rows " + rows, bilevel().tag(278, LONG, rows), TAGS);
        }
        held("the height", bilevel().tag(278, SHORT, 2), 1);
        held("1", new FileMaker(false, 1, true, 1, 2, 1).strip(1).strip(2), 2);
        held("one less than the height", new FileMaker(false, 1, true, 1, 3, 2).strip(1, 2).strip(3), 2);
    }

    private static void linesTag() {
        for (long value : new long[] {0, 2, 5, 257, 0x10001L, 0x01000001L, 0xffffffffL}) {
            refused("G3 and " + value, g3().tag(292, LONG, value), TAGS);
            refused("another scheme and " + value, bilevel().tag(292, LONG, value), TAGS);
        }
        held("G3 and 1", g3().tag(292, LONG, 1), 1);
        held("G3 and 1 as SHORT", g3().tag(292, SHORT, 1), 1);
        held("another scheme and 1", bilevel().tag(292, LONG, 1), 1);
    }

    private static void otherNumbers() {
        held("others", bilevel().tag(0, 77, 1).tag(254, 0, 9).tag(277, SHORT, 5).count(277, 0xffffffffL)
            .tag(282, 5, 0).tag(65535, LONG, 0xffffffffL).count(65535, 4000), 1);
        for (int number : new int[] {0, 1, 255, 260, 261, 263, 272, 274, 277, 280, 291, 293, 320, 513, 32768, 65535}) {
            for (int type : new int[] {0, 1, 5, 12, 65535}) {
                for (long count : new long[] {0, 1, 2, 0x80000000L, 0xffffffffL}) {
                    held("number " + number, bilevel().tag(number, type, 0xffff).count(number, count), 1);
                }
            }
        }
        FileMaker many = bilevel();
        for (int number = 1000; number < 1100; number++) {
            many.tag(number, LONG, number);
        }
        held("many", many, 1);
    }

    private static void stripsOutside() {
        int size = bilevel().made().size();
        for (long far : new long[] {size, size + 1, 2000, 0x7fffffffL, 0x80000000L, 0xfffffffeL, 0xffffffffL}) {
            refused("strip at " + far, bilevel().tag(273, LONG, far), STRIPS);
            refused("strip of " + far, bilevel().tag(279, LONG, far), STRIPS);
            refused("both " + far, bilevel().tag(273, LONG, far).tag(279, LONG, far), STRIPS);
        }
        held("the last bytes", bilevel().tag(273, LONG, size - 2), 1);
        refused("one byte behind", bilevel().tag(273, LONG, size - 1), STRIPS);
        refused("the whole file", bilevel().tag(273, LONG, 0).tag(279, LONG, size), DATA);
        refused("more than the whole file", bilevel().tag(273, LONG, 0).tag(279, LONG, size + 1), STRIPS);
        refused("nothing at the end", bilevel().tag(273, LONG, size).tag(279, LONG, 0), DATA);
        refused("nothing behind the end", bilevel().tag(273, LONG, size + 1).tag(279, LONG, 0), STRIPS);
        for (int nth = 0; nth < 3; nth++) {
            long[] places = {8, 12, 16};
            places[nth] = 1999;
            refused("strip " + nth, gray(false).tag(273, LONG, places).tag(279, LONG, 4, 4, 2), STRIPS);
            long[] sizes = {4, 4, 2};
            sizes[nth] = 1999;
            refused("strip " + nth, gray(false).tag(273, LONG, 8, 12, 16).tag(279, LONG, sizes), STRIPS);
        }
        held("two strips in one place", new FileMaker(true, 1, true, 2, 2, 1).strip(5, 6)
            .tag(273, SHORT, 8, 8).tag(279, SHORT, 2, 2), 2);
    }

    private static void firstFaultWins() {
        refused("tags before strips", bilevel().tag(273, LONG, 2000).behind(1), TAGS);
        refused("tags before strips", gray(true).tag(273, LONG, 2000, 2000, 2000).without(279), TAGS);
        refused("tags before data", bilevel().tag(279, LONG, 1).behind(1), TAGS);
        refused("strips before data", gray(false).tag(273, LONG, 8, 12, 1999).tag(279, LONG, 3, 4, 2), STRIPS);
        refused("data of the first strip", gray(false).tag(273, LONG, 8, 12, 16).tag(279, LONG, 3, 4, 2), DATA);
        refused("data of the last strip", gray(false).tag(273, LONG, 8, 12, 16).tag(279, LONG, 4, 4, 3), DATA);
        FaxPages pages = bilevel().tag(273, LONG, 2000).behind(1).into(Pages.withPast());
        pages.put(0, 1);
        CHECK.readRefuses("header before tags", pages, HEADER);
        pages = bilevel().tag(273, LONG, 2000).into(Pages.withPast());
        pages.put(2, 1);
        CHECK.readRefuses("header before strips", pages, HEADER);
        pages = bilevel().tag(279, LONG, 1).into(Pages.withPast());
        pages.put(3, 1);
        CHECK.readRefuses("header before data", pages, HEADER);
    }
}
