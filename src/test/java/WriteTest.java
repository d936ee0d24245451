/** Promise 6: write. */
public final class WriteTest {
    private static final Check CHECK = new Check();
    private static final String MARK = "000000000001";

    public static void main(String[] args) {
        wholeFiles();
        plainStrips();
        runsStrips();
        tableStrips();
        tableWidths();
        g3Strips();
        g4Strips();
        allRunCodes();
        g4Modes();
        wrongArguments();
        againAndAgain();
        CHECK.end();
    }

    private static void wholeFiles() {
        FaxPages pages = Pages.bilevel("#.#");
        CHECK.same("bytes", pages.write(1, false, 1), 112);
        CHECK.same("II, one strip", Pages.hex(pages, 0, pages.size()), ""
            + "49 49 2a 00 0a 00 00 00 a0 00 08 00"
            + " 00 01 03 00 01 00 00 00 03 00 00 00"
            + " 01 01 03 00 01 00 00 00 01 00 00 00"
            + " 02 01 03 00 01 00 00 00 01 00 00 00"
            + " 03 01 03 00 01 00 00 00 01 00 00 00"
            + " 06 01 03 00 01 00 00 00 00 00 00 00"
            + " 11 01 04 00 01 00 00 00 08 00 00 00"
            + " 16 01 03 00 01 00 00 00 01 00 00 00"
            + " 17 01 04 00 01 00 00 00 01 00 00 00"
            + " 00 00 00 00");
        pages = Pages.gray(1, 7, 8, 200);
        CHECK.same("bytes", pages.write(32773, true, 2), 132);
        CHECK.same("MM, two strips", Pages.hex(pages, 0, pages.size()), ""
            + "4d 4d 00 2a 00 00 00 1e 00 07 00 08 00 c8"
            + " 00 00 00 08 00 00 00 0c 00 00 00 04 00 00 00 02 00 08"
            + " 01 00 00 03 00 00 00 01 00 01 00 00"
            + " 01 01 00 03 00 00 00 01 00 03 00 00"
            + " 01 02 00 03 00 00 00 01 00 08 00 00"
            + " 01 03 00 03 00 00 00 01 80 05 00 00"
            + " 01 06 00 03 00 00 00 01 00 01 00 00"
            + " 01 11 00 04 00 00 00 02 00 00 00 0e"
            + " 01 16 00 03 00 00 00 01 00 02 00 00"
            + " 01 17 00 04 00 00 00 02 00 00 00 16"
            + " 00 00 00 00");
        pages = Pages.bilevel(".");
        CHECK.same("bytes", pages.write(3, true, 1), 126);
        CHECK.same("MM, G3", Pages.hex(pages, 0, pages.size()), ""
            + "4d 4d 00 2a 00 00 00 0c 00 18 e0 00 00 09"
            + " 01 00 00 03 00 00 00 01 00 01 00 00"
            + " 01 01 00 03 00 00 00 01 00 01 00 00"
            + " 01 02 00 03 00 00 00 01 00 01 00 00"
            + " 01 03 00 03 00 00 00 01 00 03 00 00"
            + " 01 06 00 03 00 00 00 01 00 00 00 00"
            + " 01 11 00 04 00 00 00 01 00 00 00 08"
            + " 01 16 00 03 00 00 00 01 00 01 00 00"
            + " 01 17 00 04 00 00 00 01 00 00 00 03"
            + " 01 24 00 04 00 00 00 01 00 00 00 01"
            + " 00 00 00 00");
    }

    private static void strip(String what, FaxPages pages, int scheme, String bits) {
        pages.write(scheme, false, pages.info(1));
        int many = Pages.packed(bits).length;
        CHECK.same(what, Pages.hex(pages, 8, 8 + many), Pages.packedHex(bits));
        CHECK.same(what + ": size of the strip", sizeOfStrip(pages), many);
    }

    private static int sizeOfStrip(FaxPages pages) {
        int tags = pages.at(4) + 256 * pages.at(5);
        return pages.at(tags + 2 + 7 * 12 + 8) + 256 * pages.at(tags + 2 + 7 * 12 + 9);
    }

    private static void plainStrips() {
        strip("nine pixels", Pages.bilevel("#.#.#.#.#", "........#"), 1, "10101010 10000000 00000000 10000000");
        strip("gray", Pages.gray(3, 1, 0, 255, 9, 8, 7), 1, Pages.codes(8, 1, 0, 255, 9, 8, 7));
    }

    private static void runsStrips() {
        strip("same", Pages.gray(4, 5, 5, 5, 5), 32773, Pages.codes(8, 253, 5));
        strip("two of the same", Pages.gray(2, 5, 5), 32773, Pages.codes(8, 255, 5));
        strip("different", Pages.gray(4, 5, 6, 5, 6), 32773, Pages.codes(8, 3, 5, 6, 5, 6));
        strip("alone", Pages.gray(1, 5), 32773, Pages.codes(8, 0, 5));
        strip("in turn", Pages.gray(8, 1, 2, 2, 3, 4, 5, 5, 6), 32773,
            Pages.codes(8, 0, 1, 255, 2, 1, 3, 4, 255, 5, 0, 6));
        strip("rows by themselves", Pages.gray(2, 5, 5, 5, 5), 32773, Pages.codes(8, 255, 5, 255, 5));
        int[] wide = new int[20];
        strip("widest", Pages.gray(20, wide), 32773, Pages.codes(8, 237, 0));
        strip("bilevel", Pages.bilevel("########.......#########"), 32773, Pages.codes(8, 2, 255, 1, 255));
    }

    private static void tableStrips() {
        strip("alone", Pages.gray(1, 77), 5, Pages.codes(9, 256, 77, 257));
        strip("its own entry", Pages.gray(7, 7, 7, 7, 7, 7, 7, 9), 5, Pages.codes(9, 256, 7, 258, 259, 9, 257));
        strip("over the rows' ends", Pages.gray(3, 1, 2, 1, 2, 1, 2, 3, 3, 3), 5,
            Pages.codes(9, 256, 1, 2, 258, 258, 3, 262, 257));
        strip("bilevel", Pages.bilevel("#", "#", "."), 5, Pages.codes(9, 256, 128, 128, 0, 257));
    }

    /** Bytes of which no two stand behind one another twice. */
    private static int[] unlikePairs(int many) {
        int[] bytes = new int[many];
        for (int i = 0; i < many; i++) {
            bytes[i] = i < 256 ? i : 3 * i & 255;
        }
        return bytes;
    }

    private static void tableWidths() {
        int[] bytes = unlikePairs(400);
        String bits = Pages.codes(9, 256);
        for (int i = 0; i < 400; i++) {
            bits += Pages.codes(i < 254 ? 9 : 10, bytes[i]);
        }
        strip("400 codes", Pages.gray(20, bytes), 5, bits + Pages.codes(10, 257));

        bytes = unlikePairs(255);
        bits = Pages.codes(9, 256);
        for (int i = 0; i < 254; i++) {
            bits += Pages.codes(9, bytes[i]);
        }
        strip("255 codes", Pages.gray(15, bytes), 5, bits + Pages.codes(10, 254, 257));

        bytes[253] = 0;
        bytes[254] = 1;
        bits = Pages.codes(9, 256);
        for (int i = 0; i < 253; i++) {
            bits += Pages.codes(9, bytes[i]);
        }
        strip("END is the 255th", Pages.gray(15, bytes), 5, bits + Pages.codes(9, 258) + Pages.codes(10, 257));

        bytes = unlikePairs(252);
        bits = Pages.codes(9, 256);
        for (int i = 0; i < 252; i++) {
            bits += Pages.codes(9, bytes[i]);
        }
        strip("END is the 253rd", Pages.gray(14, bytes), 5, bits + Pages.codes(9, 257));
    }

    private static void g3Strips() {
        strip("black first", Pages.bilevel("##."), 3, MARK + "1 00110101 11 000111");
        strip("every fourth line by itself",
            Pages.bilevel("#...", "#...", "....", "####", "#...", ".#.."), 3,
            MARK + "1 00110101 010 1000"
            + MARK + "0 1 1 1"
            + MARK + "0 0001 1"
            + MARK + "0 001 00110101 011"
            + MARK + "1 00110101 010 1000"
            + MARK + "0 011 000010 1");
        FaxPages pages = Pages.bilevel("#", "#", "#", "#", "#", "#", "#");
        pages.write(3, false, 3);
        String byItself = MARK + "1 00110101 010";
        String strip = Pages.packedHex(byItself + MARK + "0 1 1" + MARK + "0 1 1");
        String last = Pages.packedHex(byItself);
        String due = strip + " " + strip + " " + last;
        CHECK.same("lines count by strips", Pages.hex(pages, 8, 8 + (due.length() + 1) / 3), due);
    }

    private static void g4Strips() {
        strip("white", Pages.bilevel("...", "..."), 4, "1 1" + MARK + MARK);
        strip("black", Pages.bilevel("###", "###"), 4, "0000010 1" + "1 1" + MARK + MARK);
        FaxPages pages = Pages.bilevel("#####", "#####");
        pages.write(4, false, 1);
        String strip = Pages.packedHex("001 00110101 0011" + MARK + MARK);
        CHECK.same("each strip by a white line", Pages.hex(pages, 8, 8 + strip.length() * 2 / 3 + 1),
            strip + " " + strip);
    }

    private static void g4Modes() {
        String head = "001 0111 0011 1";
        String line = "..#####.....";
        strip("b1 - 1, b1 + 1", Pages.bilevel(line, ".#######...."), 4, head + "010 011 1" + MARK + MARK);
        strip("b1 - 2, b1 + 2", Pages.bilevel(line, "#########..."), 4, head + "000010 000011 1" + MARK + MARK);
        strip("b1 + 3, b1 - 1", Pages.bilevel(line, ".....#......"), 4, head + "0000011 010 1" + MARK + MARK);
        strip("b1 - 3", Pages.bilevel("....#.......", ".#.........."), 4,
            "001 1011 010 1" + "0000010 0000010 0001 1" + MARK + MARK);
        strip("two runs", Pages.bilevel(line, "......#....."), 4,
            head + "001 1110 010 1" + MARK + MARK);
        strip("nothing of the other", Pages.bilevel(line, "............"), 4, head + "0001 1" + MARK + MARK);
        strip("b2 is a1", Pages.bilevel("#...........", ".#.........."), 4,
            "001 00110101 010 1" + "011 001 010 00111" + MARK + MARK);
        strip("both lines end", Pages.bilevel(".....#######", ".........###"), 4,
            "001 1100 00011" + "001 10100 10" + MARK + MARK);
    }

    private static void allRunCodes() {
        CHECK.same("codes", Model.WHITE.length + Model.BLACK.length, 82);
        for (int run = 0; run <= 40; run++) {
            String line = ".".repeat(run) + "#".repeat(40 - run);
            strip("line " + line, Pages.bilevel(line), 3,
                MARK + "1" + Model.WHITE[run] + (run < 40 ? Model.BLACK[40 - run] : ""));
        }
    }

    private static void wrongArguments() {
        FaxPages bilevel = Pages.bilevel("#.", ".#", "##");
        bilevel.write(4, true, 2);
        FaxPages gray = Pages.gray(2, 1, 2, 3, 4);
        String before = Pages.state(bilevel);
        String grayBefore = Pages.state(gray);
        for (int scheme : new int[] {0, 2, 6, -1, 32772, 32774, -32763, 65539, Integer.MIN_VALUE}) {
            CHECK.raises("scheme " + scheme, IllegalArgumentException.class, () -> bilevel.write(scheme, false, 1));
        }
        for (int scheme : new int[] {1, 3, 4, 5, 32773}) {
            for (int rows : new int[] {0, -1, 4, Integer.MIN_VALUE, Integer.MAX_VALUE}) {
                CHECK.raises("rows " + rows, IllegalArgumentException.class, () -> bilevel.write(scheme, true, rows));
                CHECK.raises("rows " + rows, IllegalArgumentException.class, () -> gray.write(scheme, true, rows));
            }
        }
        CHECK.raises("G3 gray", IllegalStateException.class, () -> gray.write(3, true, 1));
        CHECK.raises("G4 gray", IllegalStateException.class, () -> gray.write(4, false, 2));
        CHECK.same("state", Pages.state(bilevel), before);
        CHECK.same("state", Pages.state(gray), grayBefore);
    }

    private static void againAndAgain() {
        FaxPages pages = Pages.bilevel("#.#.#.#.#.", ".#.#.#.#.#");
        String[] first = new String[2];
        for (int i = 0; i < 2; i++) {
            StringBuilder all = new StringBuilder();
            for (int scheme : new int[] {5, 3, 32773, 4, 1}) {
                int size = pages.write(scheme, i == 1, 1);
                CHECK.same("size", pages.size(), size);
                CHECK.same("picture stays", Pages.shown(pages), "#.#.#.#.#.\n.#.#.#.#.#\n");
                pages.write(scheme, false, 2);
                all.append(Pages.hex(pages, 0, pages.size()));
            }
            first[i] = all.toString();
        }
        CHECK.same("the same files again", first[1], first[0]);
    }
}
