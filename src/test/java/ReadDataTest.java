/** Promise 7: read, as far as the strips' bytes go. */
public final class ReadDataTest {
    private static final Check CHECK = new Check();
    private static final String MARK = "000000000001";
    private static final String END = MARK + MARK;
    private static final String W0 = "00110101";
    private static final String B0 = "0000110111";

    public static void main(String[] args) {
        plain();
        runs();
        table();
        tableWidths();
        g3();
        g3Lines();
        g4();
        g4Modes();
        g4Fill();
        bySeveralStrips();
        CHECK.end();
    }

    private static void bilevel(String what, int scheme, String bits, String... rows) {
        held(what, FileMaker.one(scheme, rows[0].length(), rows.length, bits), String.join("\n", rows) + "\n");
    }

    private static void held(String what, FileMaker maker, String due) {
        FaxPages pages = maker.made();
        CHECK.isTrue(what + " is held", pages.read() > 0);
        CHECK.same(what, Pages.shown(pages), due);
    }

    private static void refused(String what, int scheme, int width, int height, String bits) {
        refused(what, FileMaker.one(scheme, width, height, bits));
    }

    private static void refused(String what, FileMaker maker) {
        FaxPages pages = maker.made();
        String before = Pages.state(pages);
        CHECK.same(what, pages.read(), FaxPages.DATA);
        CHECK.same(what + " changes nothing", Pages.state(pages), before);
    }

    private static FileMaker gray(int scheme, int width, int height, int... bytes) {
        return new FileMaker(true, scheme, true, width, height, height).strip(bytes);
    }

    private static FileMaker grayCodes(int width, int height, int... codes) {
        return gray(5, width, height, Pages.packed(Pages.codes(9, codes)));
    }

    private static void plain() {
        bilevel("two rows", 1, "10000000 10000000 01111111 00000000", "#.......#", ".#######.");
        refused("over in a row", 1, 9, 1, "10000000 11000000");
        refused("over in the first row", 1, 7, 2, "00000001 00000000");
        refused("over at the very end", 1, 33, 1, "0".repeat(39) + "1");
        refused("a byte too few", 1, 9, 1, "10000000");
        refused("a byte too many", 1, 9, 1, "10000000 10000000 00000000");
        refused("nothing", 1, 9, 1, "");
        held("gray", gray(1, 2, 2, 1, 0, 255, 9), "1 0 \n255 9 \n");
        refused("gray, too few", gray(1, 2, 2, 1, 0, 255));
        refused("gray, too many", gray(1, 2, 2, 1, 0, 255, 9, 0));
    }

    private static void runs() {
        held("as written", gray(32773, 3, 2, 254, 7, 2, 1, 2, 3), "7 7 7 \n1 2 3 \n");
        held("in other pieces", gray(32773, 3, 2, 255, 7, 0, 7, 0, 1, 1, 2, 3), "7 7 7 \n1 2 3 \n");
        held("128 is nothing", gray(32773, 3, 2, 128, 128, 255, 7, 128, 0, 7, 128, 2, 1, 2, 3), "7 7 7 \n1 2 3 \n");
        refused("128 at the end", gray(32773, 3, 2, 254, 7, 2, 1, 2, 3, 128));
        refused("0 at the end", gray(32773, 3, 2, 254, 7, 2, 1, 2, 3, 0));
        refused("over the row's end, the same", gray(32773, 3, 2, 251, 7));
        refused("over the row's end, different", gray(32773, 3, 2, 5, 1, 2, 3, 4, 5, 6));
        refused("over the last row's end", gray(32773, 3, 1, 253, 7));
        refused("too few", gray(32773, 3, 2, 254, 7, 1, 1, 2));
        refused("cut in the same", gray(32773, 3, 1, 254));
        refused("cut in the different", gray(32773, 3, 1, 2, 1, 2));
        refused("only 128", gray(32773, 1, 1, 128, 128));
        refused("nothing", gray(32773, 1, 1));
        refused("129 is 128 bytes", gray(32773, 1, 1, 129, 5));
        refused("127 is 128 bytes", gray(32773, 1, 1, 127, 5));
        held("the widest", gray(32773, 20, 1, 237, 4), "4 ".repeat(20) + "\n");
        bilevel("bilevel", 32773, Pages.codes(8, 1, 129, 128), "#......##");
        refused("over in a row", 32773, 9, 1, Pages.codes(8, 1, 129, 192));
        refused("over in a row of the same", 32773, 12, 1, Pages.codes(8, 255, 255));
    }

    private static void table() {
        held("as written", grayCodes(7, 1, 256, 7, 258, 259, 9, 257), "7 7 7 7 7 7 9 \n");
        held("single bytes", grayCodes(3, 1, 256, 7, 7, 7, 257), "7 7 7 \n");
        held("CLEAR twice", grayCodes(1, 1, 256, 256, 7, 257), "7 \n");
        held("CLEAR between", grayCodes(6, 1, 256, 7, 258, 256, 8, 258, 257), "7 7 7 8 8 8 \n");
        held("CLEAR before END", grayCodes(1, 1, 256, 7, 256, 257), "7 \n");
        held("an older entry", grayCodes(3, 2, 256, 1, 2, 258, 258, 257), "1 2 1 \n2 1 2 \n");
        refused("no CLEAR", grayCodes(1, 1, 7, 257));
        refused("END first", grayCodes(1, 1, 257));
        refused("no END", grayCodes(1, 1, 256, 7));
        refused("nothing", gray(5, 1, 1));
        refused("too few bytes", grayCodes(2, 1, 256, 7, 257));
        refused("too many bytes", grayCodes(2, 1, 256, 7, 8, 9, 257));
        refused("too many bytes by an entry", grayCodes(2, 1, 256, 7, 258, 257));
        int[] same = new int[29];
        for (int i = 0; i < same.length; i++) {
            same[i] = i == 1 ? 9 : 256 + i;
        }
        refused("too many bytes of the largest picture", grayCodes(20, 20, same));
        refused("an entry at first", grayCodes(2, 1, 256, 258, 257));
        refused("an entry right behind a CLEAR", grayCodes(4, 1, 256, 7, 7, 256, 258, 257));
        refused("an entry of the table before", grayCodes(7, 1, 256, 7, 7, 7, 7, 256, 7, 259, 257));
        refused("an entry that comes later", grayCodes(4, 1, 256, 7, 259, 257));
        refused("the last code", grayCodes(4, 1, 256, 7, 511, 257));
        refused("over in the last byte", gray(5, 1, 1, Pages.packed(Pages.codes(9, 256, 7, 257) + "1")));
        refused("over at the very end", gray(5, 1, 1, Pages.packed(Pages.codes(9, 256, 7, 257) + "00001")));
        refused("a byte over", gray(5, 1, 1, Pages.packed(Pages.codes(9, 256, 7, 257) + "00000 00000000")));
        refused("over in the only bit that is",
            gray(5, 5, 1, Pages.packed(Pages.codes(9, 256, 1, 2, 3, 4, 5, 257) + "1")));
        refused("a byte over behind a whole byte",
            gray(5, 6, 1, Pages.packed(Pages.codes(9, 256, 1, 2, 3, 4, 5, 6, 257) + "00000000")));
        held("a whole byte at the end", grayCodes(6, 1, 256, 1, 2, 3, 4, 5, 6, 257), "1 2 3 4 5 6 \n");
        bilevel("bilevel", 5, Pages.codes(9, 256, 128, 258, 257), "#", "#", "#");
        refused("over in a row", 5, 1, 1, Pages.codes(9, 256, 192, 257));
        refused("over in a later row", 5, 9, 2, Pages.codes(9, 256, 0, 0, 0, 64, 257));
    }

    private static String singles(int from, int to, int width) {
        StringBuilder bits = new StringBuilder();
        for (int i = from; i < to; i++) {
            bits.append(Pages.codes(width, i & 255));
        }
        return bits.toString();
    }

    private static String numbers(int many) {
        StringBuilder text = new StringBuilder();
        for (int i = 0; i < many; i++) {
            text.append(i & 255).append(' ');
        }
        return text.toString();
    }

    private static void widths(String what, int many, String bits, boolean good) {
        int width = 20;
        while (many % width != 0) {
            width--;
        }
        FaxPages pages = gray(5, width, many / width, Pages.packed(bits)).made();
        CHECK.same(what, pages.read(), good ? 1 : FaxPages.DATA);
        if (good) {
            CHECK.same(what, Pages.shown(pages).replace("\n", ""), numbers(many));
        }
    }

    private static void tableWidths() {
        String clear = Pages.codes(9, 256);
        String nine = clear + singles(0, 254, 9);
        widths("the 255th has 10", 255, nine + singles(254, 255, 10) + Pages.codes(10, 257), true);
        widths("the 255th has not 9", 255, nine + singles(254, 255, 9) + Pages.codes(10, 257), false);
        widths("400", 400, nine + singles(254, 400, 10) + Pages.codes(10, 257), true);
        widths("a CLEAR as the 255th", 255, nine + Pages.codes(10, 256) + singles(254, 255, 9)
            + Pages.codes(9, 257), true);
        widths("a CLEAR as the 255th has not 9", 255, nine + Pages.codes(9, 256) + singles(254, 255, 9)
            + Pages.codes(9, 257), false);
        widths("a CLEAR as the 254th", 255, clear + singles(0, 253, 9) + Pages.codes(9, 256) + singles(253, 255, 9)
            + Pages.codes(9, 257), true);
        widths("counted from the CLEAR on", 400, clear + singles(0, 200, 9) + Pages.codes(9, 256)
            + singles(200, 400, 9) + Pages.codes(9, 257), true);
        widths("END as the 253rd", 252, clear + singles(0, 252, 9) + Pages.codes(9, 257), true);
        String one = clear + singles(0, 253, 9);
        // 253 codes and the entry 0 1 are 255 bytes; the END is the 255th code.
        FaxPages pages = gray(5, 15, 17, Pages.packed(one + Pages.codes(9, 258) + Pages.codes(10, 257))).made();
        CHECK.same("END as the 255th", pages.read(), 1);
        CHECK.same("last pixel", pages.get(14, 16), 1);
        pages = gray(5, 15, 17, Pages.packed(one + Pages.codes(9, 258) + Pages.codes(9, 257))).made();
        CHECK.same("END as the 255th has not 9", pages.read(), FaxPages.DATA);
        // The 399th code is that of the entry which only it makes: 256 + 399.
        pages = gray(5, 20, 20, Pages.packed(nine + singles(254, 398, 10) + Pages.codes(10, 655, 257))).made();
        CHECK.same("an entry above 511", pages.read(), 1);
        CHECK.same("last pixels", pages.get(18, 19) * 1000 + pages.get(19, 19), 141141);
    }

    private static void g3() {
        bilevel("one line", 3, MARK + "1 000111 11 000111", ".##.");
        bilevel("black first", 3, MARK + "1" + W0 + "011", "####");
        bilevel("white", 3, MARK + "1 1011", "....");
        bilevel("by the one above", 3, MARK + "1 000111 11 000111" + MARK + "0 1 1 1", ".##.", ".##.");
        bilevel("each by itself", 3, MARK + "1 1011" + MARK + "1 1011" + MARK + "1" + W0 + "011",
            "....", "....", "####");
        StringBuilder late = new StringBuilder(MARK + "1" + W0 + "011");
        for (int i = 1; i < 7; i++) {
            late.append(MARK).append("0 1 1");
        }
        bilevel("the fifth by the one above", 3, late.toString(),
            "####", "####", "####", "####", "####", "####", "####");
        refused("the first by another", 3, 4, 1, MARK + "0 1");
        refused("no MARK", 3, 4, 1, "1 1011");
        refused("a MARK with a 0 too many", 3, 4, 1, "0" + MARK + "1 1011");
        refused("a MARK with a 0 too few", 3, 4, 1, "00000000001 1 1011");
        refused("no MARK between", 3, 4, 2, MARK + "1 1011 1 1011");
        refused("a MARK too many", 3, 4, 1, MARK + "1 1011" + MARK);
        refused("a line too many", 3, 4, 1, MARK + "1 1011" + MARK + "1 1011");
        refused("a line too few", 3, 4, 2, MARK + "1 1011");
        refused("nothing behind the MARK", 3, 4, 1, MARK + "1");
        refused("nothing", 3, 4, 1, "");
    }

    private static void g3Lines() {
        bilevel("runs of nothing", 3, MARK + "1 000111" + B0 + "000111 010 " + W0 + "010", "..##");
        bilevel("many runs of nothing", 3, MARK + "1" + (W0 + B0).repeat(100) + "1011", "....");
        refused("only runs of nothing", 3, 4, 1, MARK + "1" + (W0 + B0).repeat(100));
        refused("beyond the width, white", 3, 4, 1, MARK + "1 1100");
        refused("beyond the width, black", 3, 4, 1, MARK + "1 000111 011");
        refused("a run of nothing behind the last", 3, 4, 1, MARK + "1 1011" + B0);
        refused("cut", 3, 8, 1, MARK + "1 10");
        refused("cut before a code's last 0", 3, 3, 1, MARK + "1 100");
        refused("no white code", 3, 4, 1, MARK + "1 00000001");
        refused("the code of a run of 64", 3, 40, 1, MARK + "1 11011 00101001");
        refused("no black code", 3, 4, 1, MARK + "1 000111 000000001");
        refused("over in the last byte", 3, 4, 1, MARK + "1 1011 0000001");
        refused("a byte over", 3, 4, 1, MARK + "1 1011 0000000 00000000");
        bilevel("a whole byte at the end", 3, MARK + "1" + W0 + "010", "#");
        refused("a byte over behind a whole one", 3, 1, 1, MARK + "1" + W0 + "010 00000000");
    }

    private static void g4() {
        bilevel("white", 4, "1" + END, "....");
        bilevel("two runs", 4, "001 000111 11 1" + END, ".##.");
        bilevel("black first", 4, "001" + W0 + "011" + END, "####");
        bilevel("by the one above", 4, "001 000111 11 1 111" + END, ".##.", ".##.");
        bilevel("no black", 4, "001 000111" + B0 + "1" + END, "....");
        bilevel("no white but in the middle", 4, "001 000111 010 001" + W0 + "010 1" + END, ".##.");
        refused("both runs 0", 4, 4, 1, "001" + W0 + B0 + "1" + END);
        refused("both runs 0 in the middle", 4, 4, 1, "001 000111 010 001" + W0 + B0 + "1" + END);
        refused("runs beyond the width", 4, 4, 1, "001 1000 11" + END);
        refused("a run beyond the width", 4, 4, 1, "001 1100" + B0 + END);
        refused("no run code", 4, 4, 1, "001 00000001 010" + END);
        refused("no second run code", 4, 4, 1, "001 000111 00000000" + END);
        refused("b1 + 1 behind the width", 4, 4, 1, "011" + END);
        refused("b1 + 2 behind the width", 4, 4, 1, "000011" + END);
        refused("b1 + 3 behind the width", 4, 4, 1, "0000011" + END);
        refused("0001 with nothing to pass", 4, 4, 1, "0001 1" + END);
        refused("no mode", 4, 4, 1, "0000001 1" + END);
        refused("no mode", 4, 4, 1, "00000001" + END);
        refused("a line too few", 4, 4, 2, "1" + END);
        refused("a line too many", 4, 4, 1, "1 1" + END);
    }

    private static void g4Modes() {
        String first = "001 0111 11 1";
        bilevel("b1 - 1, b1 + 1", 4, first + "010 011 1" + END, "..##....", ".####...");
        bilevel("b1 - 2, b1 + 2", 4, first + "000010 000011 1" + END, "..##....", "######..");
        bilevel("b1 + 3, the width", 4, first + "0000011 1" + END, "..##....", ".....###");
        bilevel("b1 - 3", 4, "001 1000 11 1 0000010 0000010 0001 1" + END, "...##...", "##......");
        bilevel("passed", 4, first + "0001 1" + END, "..##....", "........");
        bilevel("passed, then black", 4, first + "0001 010 1" + END, "..##....", ".......#");
        refused("passed, but it ends at the width", 4, 4, 2, "001 0111 11" + "0001 1" + END);
        refused("before the first pixel", 4, 4, 2, "001" + W0 + "010 1" + "010 1" + END);
        refused("b1 - 2 before the first pixel", 4, 4, 2, "001 000111 010 1" + "0000010 1" + END);
        refused("not behind a", 4, 4, 2, "001" + W0 + "010 1" + "1 010 1" + END);
        refused("back", 4, 4, 2, "001" + W0 + "010 1" + "1 000010 1" + END);
        bilevel("the first pixel", 4, "001" + W0 + "010 1" + "1 1 1" + END, "#...", "#...");
        bilevel("just behind a", 4, "001" + W0 + "11 1" + "1 010 1" + END, "##..", "#...");
        bilevel("the first line by a white one", 4, "000010 1" + END, "##");
        bilevel("black by a step back from the width", 4, "0000010 1" + END, "###");
        bilevel("one pixel before the width", 4, "010 1" + END, "...#");
        refused("the same place again", 4, 4, 1, "010 010 1" + END);
    }

    private static void g4Fill() {
        refused("no MARKs", 4, 4, 1, "1");
        refused("one MARK", 4, 4, 1, "1" + MARK);
        refused("a wrong MARK", 4, 4, 1, "1" + MARK + "000000000011");
        refused("three MARKs", 4, 4, 1, "1" + MARK + END);
        refused("over in the last byte", 4, 4, 1, "1" + END + "0000001");
        refused("a byte over", 4, 4, 1, "1" + END + "0000000 00000000");
        bilevel("a whole byte at the end", 4, "1".repeat(8) + END, ".", ".", ".", ".", ".", ".", ".", ".");
        refused("a byte over behind a whole one", 4, 1, 8, "1".repeat(8) + END + "00000000");
        refused("nothing", 4, 4, 1, "");
    }

    private static void bySeveralStrips() {
        FileMaker g4 = new FileMaker(true, 4, false, 5, 3, 2)
            .strip("001" + W0 + "0011" + "1 1" + END).strip("001" + W0 + "0011" + END);
        held("G4, each strip by a white line", g4, "#####\n#####\n#####\n");
        refused("G4, the second strip not by the line above", new FileMaker(true, 4, false, 5, 2, 1)
            .strip("001" + W0 + "0011" + END).strip("0000010 0000010 1" + END));
        FileMaker g3 = new FileMaker(true, 3, false, 4, 3, 2)
            .strip(MARK + "1" + W0 + "011" + MARK + "0 1 1").strip(MARK + "1 1011");
        held("G3", g3, "####\n####\n....\n");
        refused("G3, the second strip's first line by another", new FileMaker(true, 3, false, 4, 3, 2)
            .strip(MARK + "1" + W0 + "011" + MARK + "0 1 1").strip(MARK + "0 1 1"));
        refused("a strip with the next one's rows", new FileMaker(true, 1, true, 1, 3, 2).strip(1, 2, 3).strip(3));
        refused("a strip with too few rows", new FileMaker(true, 1, true, 1, 3, 2).strip(1).strip(3));
        refused("only the last strip is wrong", new FileMaker(true, 1, true, 1, 3, 2).strip(1, 2).strip(3, 4));
    }
}
