/** Promise 7: read, the strips of G3 and G4; sentence by sentence. */
public final class ReadFaxTest {
    private static final Check CHECK = new Check();
    private static final String MARK = "000000000001";
    private static final String END = MARK + MARK;
    private static final String W0 = "00110101";
    private static final String B0 = "0000110111";

    public static void main(String[] args) {
        CHECK.sentence("white 0 .. 40: .. black 0 .. 40: .. (read)", ReadFaxTest::allRunCodes);
        CHECK.sentence("white 0 .. 40: .. black 0 .. 40: .. (no other code)", ReadFaxTest::otherCodes);
        CHECK.sentence("A line BY ITSELF: the codes of its runs, white first (perhaps 0), in turn, up to the width.",
            ReadFaxTest::byItself);
        CHECK.sentence("MARK: 000000000001.", ReadFaxTest::marks);
        CHECK.sentence("G3: any line BY ITSELF or not", ReadFaxTest::anyLine);
        CHECK.sentence("but the first BY ITSELF", ReadFaxTest::firstLine);
        CHECK.sentence("G4 as above .. each line BY the one above (the first by a white one)", ReadFaxTest::g4Lines);
        CHECK.sentence("then two MARKS", ReadFaxTest::twoMarks);
        CHECK.sentence("0000010 000010 010 1 011 000011 0000011 in this order (read)", ReadFaxTest::nearChanges);
        CHECK.sentence("A line's runs may not go beyond the width (BY ITSELF)", ReadFaxTest::runsBeyond);
        CHECK.sentence("A line's runs may not go beyond the width (BY ANOTHER)", ReadFaxTest::changesBeyond);
        CHECK.sentence("its changes not back: by b1 a1 must be behind a", ReadFaxTest::changesBack);
        CHECK.sentence("by 0001 b2 must be below the width", ReadFaxTest::passes);
        CHECK.sentence("by 001 both runs together must not be 0", ReadFaxTest::twoRuns);
        CHECK.sentence("What is over of a .. strip must be 0", ReadFaxTest::overIsNothing);
        CHECK.sentence("and less than a byte of a strip", ReadFaxTest::overIsShort);
        CHECK.sentence("DATA: a strip does not hold its rows, and only these. (lines)", ReadFaxTest::countOfLines);
        CHECK.end();
    }

    private static void held(String what, FileMaker maker, String... rows) {
        FaxPages pages = maker.into(Pages.withPast());
        CHECK.isTrue(what + " is held", pages.read() > 0);
        CHECK.same(what, Pages.shown(pages), String.join("\n", rows) + "\n");
    }

    private static void held(String what, int scheme, String bits, String... rows) {
        held(what, FileMaker.one(scheme, rows[0].length(), rows.length, bits), rows);
    }

    private static void refused(String what, FileMaker maker) {
        CHECK.readRefuses(what, maker.into(Pages.withPast()), FaxPages.DATA);
    }

    private static void refused(String what, int scheme, int width, int height, String bits) {
        refused(what, FileMaker.one(scheme, width, height, bits));
    }

    private static void allRunCodes() {
        for (int run = 0; run <= 40; run++) {
            String line = ".".repeat(run) + "#".repeat(40 - run);
            held("G3, white " + run, 3, MARK + "1" + Model.WHITE[run] + (run == 40 ? "" : Model.BLACK[40 - run]), line);
            held("G4, white " + run, 4, "001" + Model.WHITE[run] + Model.BLACK[40 - run] + END, line);
        }
    }

    private static boolean begins(String bits, String[] codes) {
        for (String code : codes) {
            if (bits.startsWith(code)) {
                return true;
            }
        }
        return false;
    }

    /** All of 13 bits with which no code begins: they are never run codes. */
    private static void otherCodes() {
        for (int i = 0; i < 1 << 13; i++) {
            String bits = Pages.codes(13, i);
            if (!begins(bits, Model.WHITE)) {
                CHECK.same("white " + bits, FileMaker.one(3, 40, 1, MARK + "1" + bits).made().read(), FaxPages.DATA);
            }
            if (!begins(bits, Model.BLACK)) {
                CHECK.same("black " + bits, FileMaker.one(3, 40, 1, MARK + "1 000111" + bits).made().read(),
                    FaxPages.DATA);
            }
            if (!begins(bits, Model.MODES)) {
                CHECK.same("by another " + bits, FileMaker.one(4, 40, 1, bits + "1" + END).made().read(), FaxPages.DATA);
            }
        }
        refused("the code of a run of 64", 3, 40, 1, MARK + "1 11011 00101001");
        refused("a black code for white", 3, 4, 1, MARK + "1" + B0 + "1011");
        refused("no run code behind 001", 4, 4, 1, "001 00000001 010" + END);
        refused("no second run code behind 001", 4, 4, 1, "001 000111 00000000" + END);
    }

    private static void byItself() {
        held("white", 3, MARK + "1 1011", "....");
        held("black first", 3, MARK + "1" + W0 + "011", "####");
        held("in turn", 3, MARK + "1 000111 11 000111", ".##.");
        held("one pixel", 3, MARK + "1 000111", ".");
        held("the widest of single pixels", 3, MARK + "1" + "000111 010".repeat(20), ".#".repeat(20));
        held("runs of nothing", 3, MARK + "1 000111" + B0 + "000111 010 " + W0 + "010", "..##");
        held("many runs of nothing", 3, MARK + "1" + (W0 + B0).repeat(100) + "1011", "....");
        refused("only runs of nothing", 3, 4, 1, MARK + "1" + (W0 + B0).repeat(100));
        refused("not up to the width", 3, 4, 1, MARK + "1 1000");
        refused("not up to the width, and a MARK", 3, 4, 2, MARK + "1 1000" + MARK + "1 1011");
        refused("a run of nothing behind the last", 3, 4, 1, MARK + "1 1011" + B0);
        refused("black first without a white 0", 3, 4, 1, MARK + "1 011");
        for (int cut = 1; cut <= 7; cut++) {
            refused("cut in a code", 3, 40, 1, (MARK + "1 00010111").substring(0, 22 - cut));
        }
    }

    private static void marks() {
        held("MARK", 3, MARK + "1 1011", "....");
        refused("no MARK", 3, 4, 1, "1 1011");
        refused("a MARK with a 0 too many", 3, 4, 1, "0" + MARK + "1 1011");
        refused("a MARK with a 0 too few", 3, 4, 1, "00000000001 1 1011");
        refused("no MARK between", 3, 4, 2, MARK + "1 1011 1 1011");
        refused("zeros before a MARK between", 3, 4, 2, MARK + "1 1011 0000" + MARK + "1 1011");
        refused("a MARK too many", 3, 4, 1, MARK + "1 1011" + MARK);
        refused("two MARKS for one", 3, 4, 1, MARK + MARK + "1 1011");
        refused("half a MARK", 3, 4, 1, "00000000");
        refused("nothing behind the MARK", 3, 4, 1, MARK);
        refused("nothing behind the bit", 3, 4, 1, MARK + "1");
        refused("nothing", 3, 4, 1, "");
        for (int wrong = 0; wrong < 12; wrong++) {
            StringBuilder mark = new StringBuilder(MARK);
            mark.setCharAt(wrong, mark.charAt(wrong) == '0' ? '1' : '0');
            refused("G3, bit " + wrong, 3, 4, 1, mark + "1 1011");
            refused("G3, bit " + wrong + " of the second", 3, 4, 2, MARK + "1 1011" + mark + "1 1011");
            refused("G3, bit " + wrong + " of the second", 3, 4, 2, MARK + "1 1011" + mark + "0 1");
            refused("G3, bit " + wrong + " of the second, and no bit", 3, 4, 2, MARK + "1 1011" + mark + "1");
            refused("G4, bit " + wrong, 4, 4, 1, "1" + mark + MARK);
            refused("G4, bit " + wrong + " of the second", 4, 4, 1, "1" + MARK + mark);
        }
    }

    private static void anyLine() {
        String black = MARK + "1" + W0 + "011";
        String again = MARK + "0 1 1";
        held("each by itself", 3, MARK + "1 1011" + MARK + "1 1011" + black, "....", "....", "####");
        held("all but the first by the one above", 3, black + again.repeat(6), "####", "####", "####", "####", "####",
            "####", "####");
        held("in turn", 3, black + again + black + again + MARK + "1 1011", "####", "####", "####", "####", "....");
        held("24 by the first", 3, MARK + "1 000111" + (MARK + "0 1").repeat(23), ".\n".repeat(24).trim().split("\n"));
    }

    private static void firstLine() {
        refused("by another", 3, 4, 1, MARK + "0 1");
        refused("by another, then by itself", 3, 4, 2, MARK + "0 1" + MARK + "1 1011");
        String black = MARK + "1" + W0 + "011";
        held("of each strip", new FileMaker(true, 3, false, 4, 3, 2).strip(black + MARK + "0 1 1")
            .strip(MARK + "1 1011"), "####", "####", "....");
        refused("of the second strip by another", new FileMaker(true, 3, false, 4, 3, 2)
            .strip(black + MARK + "0 1 1").strip(MARK + "0 1 1"));
    }

    private static void g4Lines() {
        held("white", 4, "1" + END, "....");
        held("two runs", 4, "001 000111 11 1" + END, ".##.");
        held("black first", 4, "001" + W0 + "011" + END, "####");
        held("by the one above", 4, "001 000111 11 1 111" + END, ".##.", ".##.");
        held("the first by a white one", 4, "000010 1" + END, "##");
        held("each strip's first by a white one", new FileMaker(true, 4, false, 5, 3, 2)
            .strip("001" + W0 + "0011" + "1 1" + END).strip("001" + W0 + "0011" + END), "#####", "#####", "#####");
        refused("the second strip's first by the one above", new FileMaker(true, 4, false, 5, 2, 1)
            .strip("001" + W0 + "0011" + END).strip("0000010 0000010 1" + END));
        refused("lines by themselves", 4, 4, 1, MARK + "1 1011" + END);
    }

    private static void twoMarks() {
        held("two", 4, "1" + END, "....");
        refused("none", 4, 4, 1, "1");
        refused("none, but zeros", 4, 4, 1, "1 0000000");
        refused("one", 4, 4, 1, "1" + MARK);
        refused("one and zeros", 4, 4, 1, "1" + MARK + "000000000000");
        refused("three", 4, 4, 1, "1" + MARK + END);
        refused("one behind each strip", new FileMaker(true, 4, false, 4, 2, 1).strip("1" + END).strip("1" + MARK));
        refused("before the last line", 4, 4, 2, "1" + END + "1");
    }

    private static void nearChanges() {
        String above = ".".repeat(10) + "#".repeat(10) + "....";
        String first = MARK + "1" + Model.WHITE[10] + Model.BLACK[10] + Model.WHITE[4];
        String[] codes = {"0000010", "000010", "010", "1", "011", "000011", "0000011"};
        for (int d = -3; d <= 3; d++) {
            held("b1 + " + d, 3, first + MARK + "0" + codes[d + 3] + "1 1", above,
                ".".repeat(10 + d) + "#".repeat(10 - d) + "....");
            held("black, b1 + " + d, 3, first + MARK + "0 1" + codes[d + 3] + "1", above,
                ".".repeat(10) + "#".repeat(10 + d) + ".".repeat(4 - d));
        }
        held("up to the width", 4, "001 0111 11 1 0000011 1" + END, "..##....", ".....###");
        held("not a itself", 4, "001 000111 010 001 000111 010 1" + "011 010 1" + END, ".#.#....", "..#.....");
        held("only where the colour changes", 4, "001 0111 000101 1" + "1 000010 1" + END, "..########....",
            "..######......");
        held("the first pixel is one", 4, "001" + W0 + "011 1" + "000011 1 1" + END, "####....", "..##....");
    }

    private static void runsBeyond() {
        held("white up to it", 3, MARK + "1 1011", "....");
        refused("white", 3, 4, 1, MARK + "1 1100");
        refused("black", 3, 4, 1, MARK + "1 000111 011");
        refused("white in the middle", 3, 4, 1, MARK + "1 000111 010 1000");
        for (int width = 1; width < 40; width++) {
            CHECK.same("white of " + width, FileMaker.one(3, width, 1, MARK + "1" + Model.WHITE[width + 1]).made().read(),
                FaxPages.DATA);
            CHECK.same("black of " + width,
                FileMaker.one(3, width, 1, MARK + "1" + W0 + Model.BLACK[width + 1]).made().read(), FaxPages.DATA);
        }
        refused("in the last line", 3, 4, 2, MARK + "1 1011" + MARK + "1 1100");
    }

    private static void changesBeyond() {
        refused("b1 + 1", 4, 4, 1, "011" + END);
        refused("b1 + 2", 4, 4, 1, "000011" + END);
        refused("b1 + 3", 4, 4, 1, "0000011" + END);
        held("b1 + 1 up to it", 4, "010 1 011" + END, "...#", "....");
        refused("b1 + 2 beyond it", 4, 4, 2, "010 1 000011" + END);
        refused("001, the first run", 4, 4, 1, "001 1100" + B0 + END);
        refused("001, both runs", 4, 4, 1, "001 1000 11" + END);
        held("001, both runs up to it", 4, "001 1000 010" + END, "...#");
        refused("001, from a", 4, 4, 1, "001 000111 010 001 0111 010" + END);
        held("001, from a up to it", 4, "001 000111 010 001 000111 010" + END, ".#.#");
    }

    private static void changesBack() {
        String first = "001" + W0 + "010 1";
        held("the first pixel", 4, first + "1 1 1" + END, "#...", "#...");
        refused("before the first pixel", 4, 4, 2, first + "010 1" + END);
        refused("b1 - 3 before the first pixel", 4, 4, 2, "001 000111 010 1" + "0000010 1" + END);
        held("b1 - 1 is the first pixel", 4, "001 000111 010 1" + "010 1 1" + END, ".#..", "##..");
        held("just behind a", 4, "001" + W0 + "11 1" + "1 010 1" + END, "##..", "#...");
        refused("a itself", 4, 4, 2, first + "1 010 1" + END);
        refused("before a", 4, 4, 2, first + "1 000010 1" + END);
        refused("a itself, by the width", 4, 4, 1, "010 010 1" + END);
        held("from the width back to the first", 4, "0000010 1" + END, "###");
        refused("from the width back before the first", 4, 2, 1, "0000010 1" + END);
    }

    private static void passes() {
        String first = "001 0111 11 1";
        held("passed", 4, first + "0001 1" + END, "..##....", "........");
        held("passed, then black", 4, first + "0001 010 1" + END, "..##....", ".......#");
        held("b2 is the last pixel", 4, "001 0111 010 1" + "0001 1" + END, "..#.", "....");
        held("of white in black", 4, "001" + W0 + "010 001 000111 010 1" + "1 0001 000011 1" + END, "#.#.....",
            "#####...");
        held("of more white in black", 4, "001" + W0 + "010 001 1000 010 1" + "1 0001 000011 1" + END, "#...#...",
            "#######.");
        held("a is b2 then", 4, first + "0001 001 000111 010 1" + END, "..##....", ".....#..");
        held("a is b2 then, where it is black", 4, "001" + W0 + "010 001 1000 010 1" + "1 0001 001 010 1000" + END,
            "#...#...", "#####...");
        refused("b2 is the width", 4, 4, 2, "001 0111 11" + "0001" + END);
        refused("b2 is the width, and more", 4, 4, 2, "001 0111 11" + "0001 1" + END);
        refused("b1 is the width", 4, 4, 1, "0001" + END);
        refused("b1 is the width, and more", 4, 4, 1, "0001 1" + END);
        refused("b2 is the width, where it is black", 4, 4, 2, "001" + W0 + "010 1" + "1 0001" + END);
        refused("passed twice, but there is one", 4, 8, 2, first + "0001 0001 1" + END);
    }

    private static void twoRuns() {
        held("no black", 4, "001 000111" + B0 + "1" + END, "....");
        held("no white", 4, "001" + W0 + "010 1" + END, "#...");
        held("no white in the middle", 4, "001 000111 010 001" + W0 + "010 1" + END, ".##.");
        held("black, then white", 4, "0000010 001 010 0111" + END, "#..");
        held("black, then white, and so on", 4, "0000010 001 010 000111 1" + END, "#.#");
        held("white 0 at the end", 4, "0000010 001" + Model.BLACK[3] + W0 + END, "###");
        refused("both 0 at first", 4, 4, 1, "001" + W0 + B0 + "1" + END);
        refused("both 0 in the middle", 4, 4, 1, "001 000111 010 001" + W0 + B0 + "1" + END);
        refused("both 0 where it is black", 4, 4, 1, "0000010 001" + B0 + W0 + "1" + END);
        refused("both 0 in G3", 3, 4, 2, MARK + "1 1011" + MARK + "0 001" + W0 + B0 + "1");
        refused("cut behind the first", 4, 4, 1, "001 000111");
    }

    private static void overIsNothing() {
        String g3 = MARK + "1 1011";
        for (int i = 0; i < 7; i++) {
            refused("G3, bit " + i, 3, 4, 1, g3 + "0".repeat(i) + "1");
        }
        String g4 = "1" + END;
        for (int i = 0; i < 7; i++) {
            refused("G4, bit " + i, 4, 4, 1, g4 + "0".repeat(i) + "1");
        }
        refused("the last strip", new FileMaker(false, 4, false, 4, 2, 1).strip(g4).strip(g4 + "1"));
        refused("the first strip", new FileMaker(false, 4, false, 4, 2, 1).strip(g4 + "1").strip(g4));
    }

    private static void overIsShort() {
        for (int height = 1; height <= 9; height++) {
            String bits = "1".repeat(height) + END;
            int over = Math.floorMod(-bits.length(), 8);
            held("G4, " + over + " over", 4, bits + "0".repeat(over), ".\n".repeat(height).trim().split("\n"));
            refused("G4, a byte 0", 4, 1, height, bits + "0".repeat(over + 8));
            refused("G4, a byte", 4, 1, height, bits + "0".repeat(over) + "10000000");
        }
        held("G3, a whole byte at the end", 3, MARK + "1" + W0 + "010", "#");
        refused("G3, a byte 0 behind it", 3, 1, 1, MARK + "1" + W0 + "010 00000000");
        refused("G3, a byte 0", 3, 4, 1, MARK + "1 1011 0000000 00000000");
    }

    private static void countOfLines() {
        refused("G3, one too few", 3, 4, 2, MARK + "1 1011");
        refused("G3, one too many", 3, 4, 1, MARK + "1 1011" + MARK + "1 1011");
        refused("G4, one too few", 4, 4, 2, "1" + END);
        refused("G4, one too many", 4, 4, 1, "1 1" + END);
        refused("G3, nothing", 3, 4, 1, "");
        refused("G4, nothing", 4, 4, 1, "");
        refused("G4, only MARKS", 4, 4, 1, END);
        refused("G4, the next strip's line too", new FileMaker(false, 4, false, 4, 2, 1).strip("1 1" + END)
            .strip("1" + END));
    }
}
