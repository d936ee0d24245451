/** Promise 7: read, the strips of NONE, RUNS and TABLE; sentence by sentence. */
public final class ReadDataTest {
    private static final Check CHECK = new Check();
    private static final int[] SCHEMES = {1, 3, 4, 5, 32773};

    public static void main(String[] args) {
        CHECK.sentence("DATA: a strip does not hold its rows, and only these.", ReadDataTest::holdsItsRows);
        CHECK.sentence("HEADER, TAGS, STRIPS or DATA if it is no such file (nothing changes).",
            ReadDataTest::nothingChanges);
        CHECK.sentence("NONE: as many bytes.", ReadDataTest::plain);
        CHECK.sentence("What is over of a row .. must be 0", ReadDataTest::overOfRows);

        CHECK.sentence("RUNS, .. bytes 0 .. 127", ReadDataTest::unlikeBytes);
        CHECK.sentence("and 129 .. 255 as above", ReadDataTest::sameBytes);
        CHECK.sentence("128 is nothing", ReadDataTest::nothing);
        CHECK.sentence("RUNS, each row by itself", ReadDataTest::runsByRows);
        CHECK.sentence("(in NONE and RUNS: nothing, not even 128)", ReadDataTest::nothingOver);

        CHECK.sentence("TABLE: CLEAR first", ReadDataTest::clearFirst);
        CHECK.sentence("then codes, .. END", ReadDataTest::codesAndEnd);
        CHECK.sentence("CLEAR again at any time (the table as at first)", ReadDataTest::clearAgain);
        CHECK.sentence("a code may be that of the entry which only it makes", ReadDataTest::ownEntries);
        CHECK.sentence("each code but a CLEAR's next makes an entry", ReadDataTest::entries);
        CHECK.sentence("A code has 9 bits, from the 255th behind the CLEAR on 10", ReadDataTest::widths);
        CHECK.sentence("What is over of a .. strip must be 0, and less than a byte of a strip (TABLE)", ReadDataTest::overOfTable);
        CHECK.end();
    }

    private static void held(String what, FileMaker maker, String due) {
        FaxPages pages = maker.into(Pages.withPast());
        CHECK.isTrue(what + " is held", pages.read() > 0);
        CHECK.same(what, Pages.shown(pages), due);
    }

    private static void refused(String what, FileMaker maker) {
        CHECK.readRefuses(what, maker.into(Pages.withPast()), FaxPages.DATA);
    }

    private static FileMaker gray(int scheme, int width, int height, int... bytes) {
        return new FileMaker(true, scheme, true, width, height, height).strip(bytes);
    }

    private static FileMaker runs(int width, int height, int... bytes) {
        return gray(32773, width, height, bytes);
    }

    private static FileMaker codes(int width, int height, int... codes) {
        return gray(5, width, height, Pages.packed(Pages.codes(9, codes)));
    }

    /** Each strip of a file that was written, said to have other numbers of bytes. */
    private static void holdsItsRows() {
        for (int scheme : SCHEMES) {
            FaxPages pages = Pages.bilevel("##.#.....", "#.##.#..#", "...#####.", "#########", ".........");
            pages.write(scheme, false, 2);
            int tags = pages.at(4) + 256 * pages.at(5);
            int sizes = pages.at(tags + 2 + 7 * 12 + 8);
            for (int nth = 0; nth < 3; nth++) {
                int place = sizes + 4 * nth;
                int good = pages.at(place);
                for (int size = 0; size <= good + 3; size++) {
                    pages.put(place, size);
                    CHECK.same(scheme + ", strip " + nth + " of " + size + ", not " + good, pages.read(),
                        size == good ? 3 : FaxPages.DATA);
                }
                pages.put(place, good);
            }
        }
        refused("the next strip's rows too", new FileMaker(true, 1, true, 1, 3, 2).strip(1, 2, 3).strip(3));
        refused("too few rows", new FileMaker(true, 1, true, 1, 3, 2).strip(1).strip(3));
        refused("the last strip only what is left", new FileMaker(true, 1, true, 1, 3, 2).strip(1, 2).strip(3, 4));
        refused("the last strip of TABLE", new FileMaker(true, 5, true, 1, 3, 2)
            .strip(Pages.codes(9, 256, 1, 2, 257)).strip(Pages.codes(9, 256, 3, 4, 257)));
        refused("the last strip of RUNS", new FileMaker(true, 32773, true, 1, 3, 2).strip(0, 1, 0, 2).strip(0, 3, 0, 4));
    }

    private static void nothingChanges() {
        for (int scheme : SCHEMES) {
            FaxPages pages = Pages.bilevel("##.#.....", "#.##.#..#", "...#####.");
            pages.write(scheme, true, 1);
            int[] bytes = new int[pages.size()];
            for (int i = 0; i < bytes.length; i++) {
                bytes[i] = pages.at(i);
            }
            FaxPages other = Pages.bilevelWithPast();
            other.cut(0);
            for (int b : bytes) {
                other.add(b);
            }
            // The last strip: all before it are in order.
            int tags = 256 * other.at(6) + other.at(7);
            int sizes = 256 * other.at(tags + 2 + 7 * 12 + 10) + other.at(tags + 2 + 7 * 12 + 11);
            other.put(sizes + 11, 0);
            CHECK.readRefuses("scheme " + scheme, other, FaxPages.DATA);
        }
    }

    private static void plain() {
        held("two rows", FileMaker.one(1, 9, 2, "10000000 10000000 01111111 00000000"), "#.......#\n.#######.\n");
        refused("a byte too few", FileMaker.one(1, 9, 1, "10000000"));
        refused("a byte too many", FileMaker.one(1, 9, 1, "10000000 10000000 00000000"));
        refused("nothing", FileMaker.one(1, 9, 1, ""));
        held("gray", gray(1, 2, 2, 1, 0, 255, 9), "1 0 \n255 9 \n");
        refused("gray, too few", gray(1, 2, 2, 1, 0, 255));
        refused("gray, too many", gray(1, 2, 2, 1, 0, 255, 9, 0));
        refused("gray, a bit a pixel", gray(1, 8, 1, 170));
    }

    private static void overOfRows() {
        for (int width : new int[] {1, 7, 9, 12, 15, 33, 39}) {
            int bits = (width + 7) / 8 * 8;
            for (int wrong = width; wrong < bits; wrong++) {
                String row = "0".repeat(wrong) + "1" + "0".repeat(bits - wrong - 1);
                String good = "1".repeat(width) + "0".repeat(bits - width);
                refused("NONE, first row", FileMaker.one(1, width, 2, row + good));
                refused("NONE, last row", FileMaker.one(1, width, 2, good + row));
                String head = Pages.codes(8, bits / 8 - 1);
                refused("RUNS, first row", FileMaker.one(32773, width, 2, head + row + head + good));
                refused("RUNS, last row", FileMaker.one(32773, width, 2, head + good + head + row));
                refused("TABLE", FileMaker.one(5, width, 1, tableOf(row)));
                refused("TABLE, last row", FileMaker.one(5, width, 2, tableOf(good + row)));
            }
        }
        refused("RUNS, of the same", FileMaker.one(32773, 12, 1, Pages.codes(8, 255, 255)));
        held("nothing is over of 8", FileMaker.one(1, 8, 1, "11111111"), "########\n");
        held("nothing is over of 40", FileMaker.one(32773, 40, 1, Pages.codes(8, 252, 255)), "#".repeat(40) + "\n");
        held("nothing is over of 16", FileMaker.one(5, 16, 1, Pages.codes(9, 256, 255, 255, 257)),
            "#".repeat(16) + "\n");
        held("gray bytes have nothing over", gray(1, 3, 1, 255, 255, 255), "255 255 255 \n");
    }

    /** Bytes as single codes of a strip of TABLE. */
    private static String tableOf(String bits) {
        StringBuilder text = new StringBuilder(Pages.codes(9, 256));
        for (int i = 0; i < bits.length(); i += 8) {
            text.append("0").append(bits, i, i + 8);
        }
        return text.append(Pages.codes(9, 257)).toString();
    }

    private static void unlikeBytes() {
        for (int head = 0; head <= 127; head++) {
            int[] bytes = new int[head + 2];
            bytes[0] = head;
            StringBuilder due = new StringBuilder();
            for (int i = 0; i <= head; i++) {
                bytes[i + 1] = 100 + i;
                due.append(100 + i).append(' ');
            }
            if (head < 20) {
                held("head " + head, runs(head + 1, 1, bytes), due + "\n");
            } else {
                refused("head " + head, runs(20, 1, bytes));
            }
            if (head > 0) {
                refused("head " + head + ", over the row", runs(Math.min(head, 20), 1, bytes));
            }
            if (head < 19) {
                refused("head " + head + ", too few", runs(head + 2, 1, bytes));
            }
        }
        held("the same bytes too", runs(3, 1, 2, 5, 5, 5), "5 5 5 \n");
        refused("cut", runs(3, 1, 2, 1, 2));
        refused("nothing behind the head", runs(1, 1, 0));
        refused("nothing at all", runs(1, 1));
    }

    private static void sameBytes() {
        for (int head = 129; head <= 255; head++) {
            int many = 257 - head;
            if (many <= 20) {
                held("head " + head, runs(many, 1, head, 9), "9 ".repeat(many) + "\n");
            } else {
                refused("head " + head, runs(20, 1, head, 9));
            }
            refused("head " + head + ", over the row", runs(Math.min(many - 1, 20), 1, head, 9));
            if (many < 20) {
                refused("head " + head + ", too few", runs(many + 1, 1, head, 9));
            }
        }
        held("in pieces", runs(6, 1, 255, 7, 0, 7, 254, 7), "7 7 7 7 7 7 \n");
        refused("nothing behind the head", runs(2, 1, 255));
    }

    private static void nothing() {
        held("before", runs(2, 1, 128, 255, 7), "7 7 \n");
        held("many", runs(2, 1, 128, 128, 128, 255, 7), "7 7 \n");
        held("between", runs(3, 1, 255, 7, 128, 0, 8), "7 7 8 \n");
        held("between rows", runs(2, 2, 255, 7, 128, 255, 8), "7 7 \n8 8 \n");
        held("as a value", runs(2, 2, 255, 128, 1, 128, 128), "128 128 \n128 128 \n");
        refused("only that", runs(1, 1, 128, 128));
        refused("before the end", runs(2, 1, 0, 7, 128));
    }

    private static void runsByRows() {
        held("as written", runs(3, 2, 254, 7, 2, 1, 2, 3), "7 7 7 \n1 2 3 \n");
        refused("the same over the row's end", runs(3, 2, 251, 7));
        refused("different over the row's end", runs(3, 2, 5, 1, 2, 3, 4, 5, 6));
        refused("a part over the row's end", runs(3, 2, 255, 7, 255, 7, 255, 7));
        refused("over the last row's end", runs(3, 1, 253, 7));
        refused("a row too few", runs(3, 2, 254, 7));
        refused("a row too many", runs(3, 1, 254, 7, 254, 7));
    }

    private static void nothingOver() {
        for (int b : new int[] {0, 1, 127, 128, 129, 255}) {
            refused("RUNS, " + b, runs(3, 2, 254, 7, 2, 1, 2, 3, b));
            refused("RUNS, " + b + " and 0", runs(3, 2, 254, 7, 2, 1, 2, 3, b, 0));
            refused("NONE, " + b, gray(1, 3, 1, 1, 2, 3, b));
        }
        refused("RUNS, many 128", runs(2, 1, 255, 7, 128, 128, 128));
    }

    private static void clearFirst() {
        held("CLEAR", codes(1, 1, 256, 7, 257), "7 \n");
        refused("a byte first", codes(1, 1, 7, 257));
        refused("a byte, then CLEAR", codes(2, 1, 7, 256, 7, 257));
        refused("END first", codes(1, 1, 257));
        refused("an entry first", codes(1, 1, 258, 257));
        refused("nothing", gray(5, 1, 1));
        refused("a byte of a CLEAR", gray(5, 1, 1, 128));
    }

    private static void codesAndEnd() {
        held("as written", codes(7, 1, 256, 7, 258, 259, 9, 257), "7 7 7 7 7 7 9 \n");
        held("single bytes", codes(3, 1, 256, 7, 7, 7, 257), "7 7 7 \n");
        held("the least and the most", codes(2, 1, 256, 0, 255, 257), "0 255 \n");
        held("over the rows' ends", codes(1, 3, 256, 7, 258, 257), "7 \n7 \n7 \n");
        refused("no END", codes(1, 1, 256, 7));
        refused("no END, but all bytes of one", codes(6, 1, 256, 1, 2, 3, 4, 5, 6, 0));
        refused("no codes", codes(1, 1, 256, 257));
        refused("too few bytes", codes(2, 1, 256, 7, 257));
        refused("too many bytes", codes(2, 1, 256, 7, 8, 9, 257));
        refused("too many bytes by an entry", codes(2, 1, 256, 7, 258, 257));
        refused("END twice", codes(1, 1, 256, 7, 257, 257));
        refused("codes behind the END", codes(2, 1, 256, 7, 257, 7));
        held("bilevel", FileMaker.one(5, 1, 3, Pages.codes(9, 256, 128, 258, 257)), "#\n#\n#\n");
        int[] growing = new int[30];
        for (int i = 0; i < growing.length; i++) {
            growing[i] = i == 1 ? 9 : 256 + i;
        }
        // 1, 2, 3, .. bytes: 28 codes are 406, more than a picture has.
        refused("too many bytes of the largest picture", codes(20, 20, growing));
    }

    private static void clearAgain() {
        held("twice", codes(1, 1, 256, 256, 7, 257), "7 \n");
        held("many", codes(1, 1, 256, 256, 256, 256, 7, 256, 256, 257), "7 \n");
        held("between", codes(6, 1, 256, 7, 258, 256, 8, 258, 257), "7 7 7 8 8 8 \n");
        held("before END", codes(1, 1, 256, 7, 256, 257), "7 \n");
        held("behind each", codes(3, 1, 256, 7, 256, 7, 256, 7, 256, 257), "7 7 7 \n");
        refused("an entry right behind it", codes(4, 1, 256, 7, 7, 256, 258, 257));
        refused("an entry of the table before", codes(7, 1, 256, 7, 7, 7, 7, 256, 7, 259, 257));
        refused("no END behind it", codes(1, 1, 256, 7, 256));
    }

    private static void ownEntries() {
        held("the first", codes(3, 1, 256, 7, 258, 257), "7 7 7 \n");
        held("in turn", codes(10, 1, 256, 7, 258, 259, 260, 257), "7 7 7 7 7 7 7 7 7 7 \n");
        held("later", codes(6, 1, 256, 1, 2, 3, 260, 9, 257), "1 2 3 3 3 9 \n");
        held("of two bytes", codes(7, 1, 256, 1, 2, 258, 260, 257), "1 2 1 2 1 2 1 \n");
        refused("one beyond", codes(4, 1, 256, 7, 259, 257));
        refused("one beyond, later", codes(6, 1, 256, 1, 2, 3, 261, 257));
        refused("the last code of 9 bits", codes(4, 1, 256, 7, 511, 257));
        refused("at once", codes(2, 1, 256, 258, 257));
    }

    private static void entries() {
        held("an older entry", codes(3, 2, 256, 1, 2, 258, 258, 257), "1 2 1 \n2 1 2 \n");
        held("each of them", codes(8, 1, 256, 1, 2, 3, 258, 259, 257 + 3, 257).tag(256, 3, 9).tag(257, 3, 1),
            "1 2 3 1 2 2 3 3 1 \n");
        held("that are there already", codes(6, 1, 256, 7, 7, 7, 7, 259, 257), "7 7 7 7 7 7 \n");
        held("by the code before, whatever it is", codes(8, 1, 256, 1, 2, 258, 3, 260, 257), "1 2 1 2 3 1 2 3 \n");
        held("CLEAR's next makes none", codes(5, 1, 256, 1, 256, 2, 3, 258, 257), "1 2 3 2 3 \n");
        refused("CLEAR's next makes none", codes(3, 1, 256, 1, 256, 258, 257));
    }

    private static String singles(int from, int to, int width) {
        StringBuilder bits = new StringBuilder();
        for (int i = from; i < to; i++) {
            bits.append(Pages.codes(width, i & 255));
        }
        return bits.toString();
    }

    private static void widths(String what, int many, String bits, boolean good) {
        int width = 20;
        while (many % width != 0) {
            width--;
        }
        FaxPages pages = gray(5, width, many / width, Pages.packed(bits)).made();
        CHECK.same(what, pages.read(), good ? 1 : FaxPages.DATA);
        StringBuilder due = new StringBuilder();
        for (int i = 0; i < many; i++) {
            due.append(i & 255).append(' ');
        }
        CHECK.same(what, Pages.shown(pages).replace("\n", ""), good ? due.toString() : ".");
    }

    private static void widths() {
        String clear = Pages.codes(9, 256);
        String nine = clear + singles(0, 254, 9);
        widths("the 255th has 10", 255, nine + singles(254, 255, 10) + Pages.codes(10, 257), true);
        widths("the 255th has not 9", 255, nine + singles(254, 255, 9) + Pages.codes(10, 257), false);
        widths("the 254th has not 10", 255, clear + singles(0, 253, 9) + singles(253, 255, 10) + Pages.codes(10, 257),
            false);
        widths("400", 400, nine + singles(254, 400, 10) + Pages.codes(10, 257), true);
        widths("a CLEAR as the 255th", 255, nine + Pages.codes(10, 256) + singles(254, 255, 9)
            + Pages.codes(9, 257), true);
        widths("a CLEAR as the 255th has not 9", 255, nine + Pages.codes(9, 256) + singles(254, 255, 9)
            + Pages.codes(9, 257), false);
        widths("a CLEAR as the 254th", 255, clear + singles(0, 253, 9) + Pages.codes(9, 256) + singles(253, 255, 9)
            + Pages.codes(9, 257), true);
        widths("counted from the CLEAR on", 400, clear + singles(0, 200, 9) + Pages.codes(9, 256)
            + singles(200, 400, 9) + Pages.codes(9, 257), true);
        widths("END as the 253rd", 252, clear + singles(0, 252, 9) + Pages.codes(9, 257), true);
        String one = clear + singles(0, 253, 9);
        // 253 codes and the entry 0 1 are 255 bytes; the END is the 255th code.
        FaxPages pages = gray(5, 15, 17, Pages.packed(one + Pages.codes(9, 258) + Pages.codes(10, 257))).made();
        CHECK.same("END as the 255th", pages.read(), 1);
        CHECK.same("last pixel", pages.get(14, 16), 1);
        pages = gray(5, 15, 17, Pages.packed(one + Pages.codes(9, 258) + Pages.codes(9, 257))).made();
        CHECK.same("END as the 255th has not 9", pages.read(), FaxPages.DATA);
        // The 399th code is that of the entry which only it makes: 256 + 399.
        pages = gray(5, 20, 20, Pages.packed(nine + singles(254, 398, 10) + Pages.codes(10, 655, 257))).made();
        CHECK.same("an entry above 511", pages.read(), 1);
        CHECK.same("last pixels", pages.get(18, 19) * 1000 + pages.get(19, 19), 141141);
    }

    private static void overOfTable() {
        for (int many = 1; many <= 8; many++) {
            int[] codes = new int[many + 2];
            codes[0] = 256;
            StringBuilder due = new StringBuilder();
            for (int i = 1; i <= many; i++) {
                codes[i] = i;
                due.append(i).append(' ');
            }
            codes[many + 1] = 257;
            String bits = Pages.codes(9, codes);
            int over = Math.floorMod(-bits.length(), 8);
            held(over + " over", gray(5, many, 1, Pages.packed(bits)), due + "\n");
            for (int i = 0; i < over; i++) {
                refused("not 0", gray(5, many, 1, Pages.packed(bits + "0".repeat(i) + "1")));
            }
            refused("a byte 0", gray(5, many, 1, Pages.packed(bits + "0".repeat(over + 8))));
            refused("a byte", gray(5, many, 1, Pages.packed(bits + "0".repeat(over) + "10000000")));
        }
    }
}
