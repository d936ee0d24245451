import java.util.Arrays;

/** Promise 6: write, as far as the strips' bytes go; sentence by sentence. */
public final class WriteStripsTest {
    private static final Check CHECK = new Check();
    private static final String MARK = "000000000001";

    public static void main(String[] args) {
        CHECK.sentence("GRAY one byte a pixel", WriteStripsTest::grayRows);
        CHECK.sentence("BILEVEL eight pixels a byte, the first one highest, what is over at the end of a row being 0.",
            WriteStripsTest::bilevelRows);

        CHECK.sentence("if the next one is the same: with all that follow and are, n = 2 .. 128 in all:"
            + " the bytes 257 - n and that one", WriteStripsTest::sameBytes);
        CHECK.sentence("otherwise n bytes up to the first one that is the same as the one behind it"
            + " (or all, or 128): the byte n - 1 and these", WriteStripsTest::unlikeBytes);
        CHECK.sentence("RUNS, each row by itself", WriteStripsTest::runsByRows);

        CHECK.sentence("TABLE: codes 256 (CLEAR), then those of the strip's rows, then 257 (END).",
            WriteStripsTest::tableCodes);
        CHECK.sentence("the entry of what follows that has most bytes is written as its code, and that with the byte"
            + " behind it (if there is one) becomes the next entry, 258, 259, ..", WriteStripsTest::tableEntries);
        CHECK.sentence("A code has 9 bits, from the 255th behind the CLEAR on 10", WriteStripsTest::tableWidths);

        CHECK.sentence("white 0 .. 40: .. black 0 .. 40: ..", WriteStripsTest::allRunCodes);
        CHECK.sentence("A line BY ITSELF: the codes of its runs, white first (perhaps 0), in turn, up to the width.",
            WriteStripsTest::byItself);
        CHECK.sentence("a1 is the first pixel behind a that is not of the colour (the width if there is none),"
            + " a2 the first one behind a1 that is", WriteStripsTest::changesOfTheLine);
        CHECK.sentence("b1 the first one of the other line behind a that is not of the colour,"
            + " but its left neighbour is (or it is the first)", WriteStripsTest::changesOfTheOther);
        CHECK.sentence("b2 the first one behind b1 that is of it (each the width if there is none). If b2 is below a1:"
            + " 0001, and a becomes b2.", WriteStripsTest::passes);
        CHECK.sentence("if a1 is b1 - 3 .. b1 + 3: 0000010 000010 010 1 011 000011 0000011 in this order",
            WriteStripsTest::nearChanges);
        CHECK.sentence("Otherwise 001 and the run codes from a (from 0 at first) to a1, of the colour,"
            + " and from a1 to a2, of the other one; a becomes a2.", WriteStripsTest::twoRuns);

        CHECK.sentence("G3: for each line of a strip a MARK, 1 and the line BY ITSELF for lines 0, 4, 8, .. of the"
            + " strip, otherwise 0 and the line BY the one above.", WriteStripsTest::g3Lines);
        CHECK.sentence("G4: each line BY the one above (the first by a white one), then two MARKS.",
            WriteStripsTest::g4Lines);
        CHECK.sentence("what is over in a strip's last byte is 0.", WriteStripsTest::fill);
        CHECK.end();
    }

    /** All rows as one strip: its bytes, and how many the file says there are. */
    private static void strip(String what, FaxPages pages, int scheme, String bits) {
        pages.write(scheme, false, pages.info(1));
        int many = Pages.packed(bits).length;
        CHECK.same(what, Pages.hex(pages, 8, 8 + many), Pages.packedHex(bits));
        int tags = pages.at(4) + 256 * pages.at(5);
        int size = tags + 2 + 7 * 12 + 8;
        CHECK.same(what + ": size of the strip", pages.at(size) + 256 * pages.at(size + 1), many);
    }

    private static void grayRows() {
        strip("gray", Pages.gray(3, 1, 0, 255, 9, 8, 7), 1, Pages.codes(8, 1, 0, 255, 9, 8, 7));
        int[] most = new int[400];
        for (int i = 0; i < most.length; i++) {
            most[i] = i * 7 & 255;
        }
        strip("20 by 20", Pages.gray(20, most), 1, Pages.codes(8, most));
    }

    private static void bilevelRows() {
        strip("1", Pages.bilevel("#", ".", "#"), 1, "10000000 00000000 10000000");
        strip("7", Pages.bilevel("#.....#"), 1, "10000010");
        strip("8", Pages.bilevel("#......#", "........"), 1, "10000001 00000000");
        strip("9", Pages.bilevel("#.#.#.#.#", "........#"), 1, "10101010 10000000 00000000 10000000");
        strip("16", Pages.bilevel("........#......#"), 1, "00000000 10000001");
        strip("39", Pages.bilevel("#".repeat(39)), 1, "1".repeat(39) + "0");
        strip("40", Pages.bilevel("#".repeat(40), ".".repeat(40)), 1, "1".repeat(40) + "0".repeat(40));
    }

    private static void runs(String what, int[] row, int... due) {
        strip(what, Pages.gray(row.length, row), 32773, Pages.codes(8, due));
    }

    private static int[] row(int... pixels) {
        return pixels;
    }

    private static void sameBytes() {
        for (int n = 2; n <= 20; n++) {
            int[] same = new int[n];
            Arrays.fill(same, 200);
            runs(n + " in all", same, 257 - n, 200);
        }
        runs("two, then another", row(5, 5, 6), 255, 5, 0, 6);
        runs("two and two", row(5, 5, 6, 6), 255, 5, 255, 6);
        runs("three at the end", row(1, 5, 5, 5), 0, 1, 254, 5);
        strip("bilevel", Pages.bilevel("#".repeat(40)), 32773, Pages.codes(8, 252, 255));
        strip("bilevel, what is over is 0", Pages.bilevel("#".repeat(39)), 32773, Pages.codes(8, 253, 255, 0, 254));
    }

    private static void unlikeBytes() {
        runs("alone", row(5), 0, 5);
        runs("two", row(5, 6), 1, 5, 6);
        runs("in turn", row(5, 6, 5, 6), 3, 5, 6, 5, 6);
        runs("up to two that are", row(1, 2, 2, 3, 4, 5, 5, 6), 0, 1, 255, 2, 1, 3, 4, 255, 5, 0, 6);
        runs("up to the last two", row(1, 2, 3, 3), 1, 1, 2, 255, 3);
        int[] most = new int[20];
        int[] due = new int[21];
        for (int i = 0; i < 20; i++) {
            most[i] = 100 + i;
            due[i + 1] = 100 + i;
        }
        due[0] = 19;
        runs("all of 20", most, due);
        strip("bilevel", Pages.bilevel("########.......#########"), 32773, Pages.codes(8, 2, 255, 1, 255));
    }

    private static void runsByRows() {
        strip("the same", Pages.gray(2, 5, 5, 5, 5), 32773, Pages.codes(8, 255, 5, 255, 5));
        strip("different", Pages.gray(2, 5, 6, 7, 8), 32773, Pages.codes(8, 1, 5, 6, 1, 7, 8));
        strip("one pixel a row", Pages.gray(1, 5, 5, 5), 32773, Pages.codes(8, 0, 5, 0, 5, 0, 5));
        strip("the same over the end", Pages.gray(2, 5, 6, 6, 5), 32773, Pages.codes(8, 1, 5, 6, 1, 6, 5));
    }

    private static void table(String what, int width, int[] pixels, int... codes) {
        strip(what, Pages.gray(width, pixels), 5, Pages.codes(9, codes));
    }

    private static void tableCodes() {
        table("one byte", 1, row(77), 256, 77, 257);
        table("two", 2, row(77, 78), 256, 77, 78, 257);
        table("the least and the most", 2, row(0, 255), 256, 0, 255, 257);
        table("over the rows' ends", 1, row(7, 7, 7), 256, 7, 258, 257);
        strip("bilevel", Pages.bilevel("#", "#", "."), 5, Pages.codes(9, 256, 128, 128, 0, 257));
        FaxPages two = Pages.gray(1, 7, 7, 7, 7);
        two.write(5, false, 2);
        String each = Pages.packedHex(Pages.codes(9, 256, 7, 7, 257));
        CHECK.same("each strip by itself", Pages.hex(two, 8, 18), each + " " + each);
    }

    private static void tableEntries() {
        table("its own entry", 7, row(7, 7, 7, 7, 7, 7, 9), 256, 7, 258, 259, 9, 257);
        table("an older entry", 3, row(1, 2, 1, 2, 1, 2, 3, 3, 3), 256, 1, 2, 258, 258, 3, 262, 257);
        table("the longest of several", 10, row(1, 2, 1, 2, 3, 1, 2, 3, 1, 2), 256, 1, 2, 258, 3, 260, 258, 257);
        table("the first of two that begin the same", 6, row(1, 2, 1, 3, 1, 2), 256, 1, 2, 1, 3, 258, 257);
        table("the last of two that begin the same", 6, row(1, 2, 1, 3, 1, 3), 256, 1, 2, 1, 3, 260, 257);
        table("the second of three that begin the same", 8, row(1, 2, 1, 3, 1, 4, 1, 3), 256, 1, 2, 1, 3, 1, 4, 260, 257);
        table("no byte behind the last", 5, row(4, 5, 4, 5, 4), 256, 4, 5, 258, 4, 257);
        table("the entry is all that is left", 4, row(4, 5, 4, 5), 256, 4, 5, 258, 257);
        table("one byte is left", 3, row(4, 4, 4), 256, 4, 258, 257);
    }

    /** Bytes of which no two stand behind one another twice. */
    private static int[] unlikePairs(int many) {
        int[] bytes = new int[many];
        for (int i = 0; i < many; i++) {
            bytes[i] = i < 256 ? i : 3 * i & 255;
        }
        return bytes;
    }

    /** The first codes: CLEAR, and so many bytes of 9 bits. */
    private static String nineBits(int[] bytes, int many) {
        StringBuilder bits = new StringBuilder(Pages.codes(9, 256));
        for (int i = 0; i < many; i++) {
            bits.append(Pages.codes(9, bytes[i]));
        }
        return bits.toString();
    }

    private static void tableWidths() {
        int[] bytes = unlikePairs(252);
        strip("END is the 253rd", Pages.gray(14, bytes), 5, nineBits(bytes, 252) + Pages.codes(9, 257));

        bytes = unlikePairs(255);
        for (int i = 251; i < 255; i++) {
            bytes[i] = i % 2 == 1 ? 0 : 1;
        }
        strip("END is the 254th", Pages.gray(15, bytes), 5, nineBits(bytes, 251) + Pages.codes(9, 258, 258, 257));

        bytes = unlikePairs(255);
        bytes[253] = 0;
        bytes[254] = 1;
        strip("END is the 255th", Pages.gray(15, bytes), 5,
            nineBits(bytes, 253) + Pages.codes(9, 258) + Pages.codes(10, 257));

        bytes = unlikePairs(255);
        strip("255 codes", Pages.gray(15, bytes), 5, nineBits(bytes, 254) + Pages.codes(10, 254, 257));

        bytes = unlikePairs(400);
        StringBuilder tens = new StringBuilder();
        for (int i = 254; i < 400; i++) {
            tens.append(Pages.codes(10, bytes[i]));
        }
        strip("400 codes", Pages.gray(20, bytes), 5, nineBits(bytes, 254) + tens + Pages.codes(10, 257));
    }

    private static void allRunCodes() {
        CHECK.same("codes", Model.WHITE.length + Model.BLACK.length, 82);
        for (int run = 0; run <= 40; run++) {
            String line = ".".repeat(run) + "#".repeat(40 - run);
            strip("line " + line, Pages.bilevel(line), 3,
                MARK + "1" + Model.WHITE[run] + (run < 40 ? Model.BLACK[40 - run] : ""));
        }
        // A black run of 0 comes only behind a white one that ends at the width.
        byAbove("black 0", "....####", "........", "001" + Model.WHITE[8] + Model.BLACK[0]);
    }

    private static String runsOf(String line) {
        StringBuilder bits = new StringBuilder();
        char colour = '.';
        for (int x = 0; x < line.length();) {
            int end = x;
            while (end < line.length() && line.charAt(end) == colour) {
                end++;
            }
            bits.append((colour == '.' ? Model.WHITE : Model.BLACK)[end - x]);
            colour = colour == '.' ? '#' : '.';
            x = end;
        }
        return bits.toString();
    }

    private static void byItself() {
        strip("white", Pages.bilevel("..."), 3, MARK + "1 1000");
        strip("black first", Pages.bilevel("##."), 3, MARK + "1 00110101 11 000111");
        strip("one white pixel", Pages.bilevel("."), 3, MARK + "1 000111");
        strip("one black pixel", Pages.bilevel("#"), 3, MARK + "1 00110101 010");
        strip("in turn", Pages.bilevel(".#..##"), 3, MARK + "1 000111 010 0111 11");
        strip("the widest of single pixels", Pages.bilevel(".#".repeat(20)), 3, MARK + "1" + "000111 010".repeat(20));
    }

    /** A line by the one above, in G3, where the first one is by itself. */
    private static void byAbove(String what, String above, String line, String bits) {
        strip(what, Pages.bilevel(above, line), 3, MARK + "1" + runsOf(above) + MARK + "0" + bits);
    }

    private static void changesOfTheLine() {
        byAbove("all white", "....", "....", "1");
        byAbove("the first pixel", "#...", "#...", "1 1 1");
        byAbove("the last pixel", "...#", "...#", "1 1");
        byAbove("up to the width", ".###", ".###", "1 1");
        byAbove("single pixels", "#.#.", "#.#.", "1 1 1 1 1");
        byAbove("a2 is just behind a1", "............", "....#.......", "001 1011 010 1");
        byAbove("a2 is the width", "............", "....########", "001 1011 000101");
        strip("one pixel", Pages.bilevel(".", "#", "#", "."), 3,
            MARK + "1 000111" + MARK + "0 010 1" + MARK + "0 1 1" + MARK + "0 011");
    }

    private static void changesOfTheOther() {
        byAbove("the first pixel is one", "####....", "..##....", "000011 1 1");
        byAbove("not a itself", ".#.#....", "..#.....", "011 010 1");
        byAbove("only where the colour changes", "..########....", "..######......", "1 000010 1");
        byAbove("not of the other change", ".......###..", "#..........#", "001 00110101 010 0001 010 1");
        byAbove("none is the width", "............", "...........#", "010 1");
        byAbove("the one above, not its own", "#......#", "##......", "1 011 011");
    }

    private static void passes() {
        byAbove("one pixel", "....#.......", "............", "0001 1");
        byAbove("two runs", "..#..##.....", "............", "0001 0001 1");
        byAbove("b2 is just below a1", ".....######...", "............##", "0001 000010 1");
        byAbove("b2 is a1", ".....######...", "...........###", "001" + Model.WHITE[11] + Model.BLACK[3]);
        byAbove("b2 is just behind a1", ".....######...", "..........####", "001" + Model.WHITE[10] + Model.BLACK[4]);
        byAbove("b2 and a1 are the width", ".....#######", "............", "001" + Model.WHITE[12] + Model.BLACK[0]);
        byAbove("before b1 + 3", "....#..........", ".......########", "0001 001 0111 000101");
        byAbove("of white pixels in black", "####..######", "############", "1 0001 1");
        byAbove("a is b2 then", "..#.........", "......#.....", "0001 001 1000 010 1");
    }

    private static void nearChanges() {
        String above = ".".repeat(10) + "#".repeat(10) + "....";
        String[] codes = {"0000010", "000010", "010", "1", "011", "000011", "0000011"};
        for (int d = -3; d <= 3; d++) {
            String line = ".".repeat(10 + d) + "#".repeat(10 - d) + "....";
            byAbove("b1 + " + d, above, line, codes[d + 3] + "1 1");
            String end = ".".repeat(10) + "#".repeat(10 + d) + ".".repeat(4 - d);
            byAbove("black, b1 + " + d, above, end, "1" + codes[d + 3] + "1");
        }
        for (int d : new int[] {-4, 4}) {
            String line = ".".repeat(10 + d) + "#".repeat(10 - d) + "....";
            byAbove("b1 + " + d, above, line, "001" + Model.WHITE[10 + d] + Model.BLACK[10 - d] + "1");
        }
        byAbove("black, b1 - 4", above, ".".repeat(10) + "######" + "........", "1 001" + Model.BLACK[6] + Model.WHITE[8]);
        byAbove("b1 is 3 behind the first", "...#....", "#.......", "0000010 0000010 0001 1");
        byAbove("b1 is the width", "....", ".###", "0000010 1");
        byAbove("a1 is the width", ".###", "....", "0000011");
        byAbove("a1 is the width, black", "#...", "####", "1 0000011");
    }

    private static void twoRuns() {
        byAbove("from 0 at first", "........", "##......", "001 00110101 11 1");
        byAbove("from 0 at first, white", "........", "..##....", "001 0111 11 1");
        byAbove("from a", "............", "#....#......", "001 00110101 010 001 1011 010 1");
        byAbove("from a where it is black", "#...........", "#####.......", "1 001 0011 1111");
        byAbove("white 0 at the end", "#.......", "########", "1 001 000101 00110101");
        byAbove("black 0 at the end", "....####", "........", "001 10011 0000110111");
        byAbove("of all", ".".repeat(40), "#".repeat(40), "001 00110101" + Model.BLACK[40]);
    }

    private static void g3Lines() {
        strip("nine lines", Pages.bilevel("#...", "#...", "....", "####", "#...", ".#..", ".#..", ".#..", ".#.."), 3,
            MARK + "1 00110101 010 1000"
            + MARK + "0 1 1 1"
            + MARK + "0 0001 1"
            + MARK + "0 001 00110101 011"
            + MARK + "1 00110101 010 1000"
            + MARK + "0 011 000010 1"
            + MARK + "0 1 1 1"
            + MARK + "0 1 1 1"
            + MARK + "1 000111 010 0111");
        FaxPages pages = Pages.bilevel("#", "#", "#", "#", "#", "#", "#");
        String byItself = MARK + "1 00110101 010";
        String byAnother = MARK + "0 1 1";
        pages.write(3, false, 3);
        String strip = Pages.packedHex(byItself + byAnother + byAnother);
        String due = strip + " " + strip + " " + Pages.packedHex(byItself);
        CHECK.same("lines count by strips", Pages.hex(pages, 8, 8 + (due.length() + 1) / 3), due);
        pages.write(3, false, 5);
        due = Pages.packedHex(byItself + byAnother.repeat(3) + byItself) + " " + Pages.packedHex(byItself + byAnother);
        CHECK.same("five lines, then two", Pages.hex(pages, 8, 8 + (due.length() + 1) / 3), due);
        StringBuilder most = new StringBuilder();
        for (int y = 0; y < 24; y++) {
            most.append(MARK).append(y % 4 == 0 ? "1 000111" : "0 1");
        }
        strip("24 lines", Pages.bilevel(".\n".repeat(24).split("\n")), 3, most.toString());
    }

    private static void g4Lines() {
        strip("white", Pages.bilevel("...", "..."), 4, "1 1" + MARK + MARK);
        strip("black", Pages.bilevel("###", "###"), 4, "0000010 1" + "1 1" + MARK + MARK);
        strip("one pixel", Pages.bilevel("#"), 4, "010 1" + MARK + MARK);
        strip("five lines", Pages.bilevel("..", ".#", ".#", "##", ".."), 4,
            "1 010 1 1 1 010 1 000011" + MARK + MARK);
        FaxPages pages = Pages.bilevel("#####", "#####");
        pages.write(4, false, 1);
        String strip = Pages.packedHex("001 00110101 0011" + MARK + MARK);
        CHECK.same("each strip's first by a white one", Pages.hex(pages, 8, 8 + strip.length() * 2 / 3 + 1),
            strip + " " + strip);
    }

    private static void fill() {
        for (int height = 1; height <= 9; height++) {
            String[] rows = ".\n".repeat(height).split("\n");
            strip("G4 of " + height + " bits over", Pages.bilevel(rows), 4, "1".repeat(height) + MARK + MARK);
        }
        for (int many = 1; many <= 8; many++) {
            int[] pixels = new int[many];
            int[] codes = new int[many + 2];
            codes[0] = 256;
            for (int i = 0; i < many; i++) {
                pixels[i] = i + 1;
                codes[i + 1] = i + 1;
            }
            codes[many + 1] = 257;
            table("TABLE of " + many, many, pixels, codes);
        }
        strip("G3, 5 bits over", Pages.bilevel("..."), 3, MARK + "1 1000");
        strip("G3, none over", Pages.bilevel("#"), 3, MARK + "1 00110101 010");
    }
}
