import java.util.function.Consumer;

/** Promise 6: write, as far as the file round the strips goes, and its refusals; sentence by sentence. */
public final class WriteTest {
    private static final Check CHECK = new Check();
    private static final int LEAST = Integer.MIN_VALUE;
    private static final int MOST = Integer.MAX_VALUE;
    private static final int[] SCHEMES = {1, 3, 4, 5, 32773};

    public static void main(String[] args) {
        CHECK.sentence("II the lowest byte first", WriteTest::lowestFirst);
        CHECK.sentence("MM the highest first", WriteTest::highestFirst);
        CHECK.sentence("292 (1, only with G3)", WriteTest::linesTag);
        CHECK.sentence("258 bits of a pixel (1 or 8), .. 262 (0 for BILEVEL, 1 for GRAY)", WriteTest::kindTags);
        CHECK.sentence("A STRIP has so many rows, the last one what is left.", WriteTest::rowsOfStrips);
        CHECK.sentence("strips one behind the other from place 8 on; if there are two or more, their places,"
            + " and their numbers of bytes, as LONGs", WriteTest::stripLists);
        CHECK.sentence("a byte 0 if that makes the place even", WriteTest::evenPlaces);
        CHECK.sentence("WRITING the picture as the file: how many bytes.", WriteTest::sizes);
        CHECK.sentence("A FILE has at most 2000 bytes. (the longest)", WriteTest::longestFiles);
        CHECK.sentence("IllegalArgument: the scheme is none", WriteTest::noScheme);
        CHECK.sentence("or rows is not 1 .. height.", WriteTest::wrongRows);
        CHECK.sentence("IllegalState: G3 or G4 and a GRAY picture.", WriteTest::grayFax);
        CHECK.sentence("where it lists more than one exception, the first one wins. (write)", WriteTest::firstWins);
        CHECK.sentence("WRITING the picture as the file (again and again)", WriteTest::againAndAgain);
        CHECK.end();
    }

    private static void whole(String what, FaxPages pages, int answer, String bytes) {
        CHECK.same(what + ": bytes", answer, (bytes.length() + 1) / 3);
        CHECK.same(what, Pages.hex(pages, 0, pages.size()), bytes);
    }

    private static void lowestFirst() {
        FaxPages pages = Pages.bilevel("#.#");
        whole("II, one strip", pages, pages.write(1, false, 1), ""
            + "49 49 2a 00 0a 00 00 00 a0 00 08 00"
            + " 00 01 03 00 01 00 00 00 03 00 00 00"
            + " 01 01 03 00 01 00 00 00 01 00 00 00"
            + " 02 01 03 00 01 00 00 00 01 00 00 00"
            + " 03 01 03 00 01 00 00 00 01 00 00 00"
            + " 06 01 03 00 01 00 00 00 00 00 00 00"
            + " 11 01 04 00 01 00 00 00 08 00 00 00"
            + " 16 01 03 00 01 00 00 00 01 00 00 00"
            + " 17 01 04 00 01 00 00 00 01 00 00 00"
            + " 00 00 00 00");
    }

    private static void highestFirst() {
        FaxPages pages = Pages.gray(1, 7, 8, 200);
        whole("MM, two strips", pages, pages.write(32773, true, 2), ""
            + "4d 4d 00 2a 00 00 00 1e 00 07 00 08 00 c8"
            + " 00 00 00 08 00 00 00 0c 00 00 00 04 00 00 00 02 00 08"
            + " 01 00 00 03 00 00 00 01 00 01 00 00"
            + " 01 01 00 03 00 00 00 01 00 03 00 00"
            + " 01 02 00 03 00 00 00 01 00 08 00 00"
            + " 01 03 00 03 00 00 00 01 80 05 00 00"
            + " 01 06 00 03 00 00 00 01 00 01 00 00"
            + " 01 11 00 04 00 00 00 02 00 00 00 0e"
            + " 01 16 00 03 00 00 00 01 00 02 00 00"
            + " 01 17 00 04 00 00 00 02 00 00 00 16"
            + " 00 00 00 00");
    }

    private static void linesTag() {
        FaxPages pages = Pages.bilevel(".");
        whole("MM, G3", pages, pages.write(3, true, 1), ""
            + "4d 4d 00 2a 00 00 00 0c 00 18 e0 00 00 09"
            + " 01 00 00 03 00 00 00 01 00 01 00 00"
            + " 01 01 00 03 00 00 00 01 00 01 00 00"
            + " 01 02 00 03 00 00 00 01 00 01 00 00"
            + " 01 03 00 03 00 00 00 01 00 03 00 00"
            + " 01 06 00 03 00 00 00 01 00 00 00 00"
            + " 01 11 00 04 00 00 00 01 00 00 00 08"
            + " 01 16 00 03 00 00 00 01 00 01 00 00"
            + " 01 17 00 04 00 00 00 01 00 00 00 03"
            + " 01 24 00 04 00 00 00 01 00 00 00 01"
            + " 00 00 00 00");
        for (int scheme : SCHEMES) {
            pages.write(scheme, false, 1);
            CHECK.same("how many tags", number(pages, number(pages, 4, 4), 2), scheme == 3 ? 9 : 8);
        }
    }

    private static int number(FaxPages pages, int place, int bytes) {
        int value = 0;
        for (int i = bytes - 1; i >= 0; i--) {
            value = value << 8 | pages.at(place + i);
        }
        return value;
    }

    /** The place of the nth tag's value in a file of order II. */
    private static int valuePlace(FaxPages pages, int nth) {
        return number(pages, 4, 4) + 2 + 12 * nth + 8;
    }

    private static void kindTags() {
        for (boolean gray : new boolean[] {false, true}) {
            FaxPages pages = new FaxPages();
            pages.blank(gray, 19, 18);
            pages.write(5, false, 17);
            int[] due = {19, 18, gray ? 8 : 1, 5, gray ? 1 : 0};
            for (int i = 0; i < due.length; i++) {
                CHECK.same("tag " + i, number(pages, valuePlace(pages, i), 4), due[i]);
            }
            CHECK.same("rows", number(pages, valuePlace(pages, 6), 4), 17);
        }
    }

    private static void rowsOfStrips() {
        FaxPages pages = new FaxPages();
        pages.blank(false, 17, 24);
        for (int rows = 1; rows <= 24; rows++) {
            pages.write(1, false, rows);
            int strips = number(pages, valuePlace(pages, 5) - 4, 4);
            CHECK.same("strips of " + rows, strips, 24 / rows + (24 % rows == 0 ? 0 : 1));
            CHECK.same("how many sizes", number(pages, valuePlace(pages, 7) - 4, 4), strips);
            int last = strips == 1 ? valuePlace(pages, 7) : number(pages, valuePlace(pages, 7), 4) + 4 * (strips - 1);
            CHECK.same("bytes of the last", number(pages, last, 4), 3 * (24 - (strips - 1) * rows));
            if (strips > 1) {
                CHECK.same("bytes of the first", number(pages, number(pages, valuePlace(pages, 7), 4), 4), 3 * rows);
            }
        }
    }

    private static void stripLists() {
        FaxPages pages = Pages.gray(2, 1, 1, 2, 3, 4, 4);
        pages.write(32773, false, 3);
        CHECK.same("one strip's place", number(pages, valuePlace(pages, 5), 4), 8);
        CHECK.same("one strip's bytes", number(pages, valuePlace(pages, 7), 4), 7);
        CHECK.same("one strip", Pages.hex(pages, 8, 18), "ff 01 01 02 03 ff 04 00 08 00");
        pages.write(32773, false, 1);
        CHECK.same("where the places are", number(pages, valuePlace(pages, 5), 4), 15);
        CHECK.same("where the sizes are", number(pages, valuePlace(pages, 7), 4), 27);
        CHECK.same("three strips", Pages.hex(pages, 8, 42), "ff 01 01 02 03 ff 04"
            + " 08 00 00 00 0a 00 00 00 0d 00 00 00 02 00 00 00 03 00 00 00 02 00 00 00 00 08 00");
        pages.write(32773, false, 2);
        CHECK.same("two strips", Pages.hex(pages, 8, 34), "ff 01 01 02 03 ff 04"
            + " 08 00 00 00 0d 00 00 00 05 00 00 00 02 00 00 00 00 08 00");
        FaxPages most = new FaxPages();
        most.blank(false, 40, 24);
        CHECK.same("the most strips", most.write(3, true, 1), 8 + 24 * 3 + 2 * 96 + 114);
        CHECK.same("the most strips", most.info(6), 24);
    }

    private static void evenPlaces() {
        for (int width = 1; width <= 8; width++) {
            FaxPages pages = new FaxPages();
            pages.blank(true, width, 1);
            pages.set(width - 1, 0, 255);
            pages.write(1, false, 1);
            int place = number(pages, 4, 4);
            CHECK.same("one strip of " + width, place, 8 + width + width % 2);
            CHECK.same("behind the strip", pages.at(8 + width), width % 2 == 1 ? 0 : 8);
            CHECK.same("the strip's bytes", number(pages, valuePlace(pages, 7), 4), width);
            pages.blank(true, width, 3);
            pages.write(1, false, 2);
            CHECK.same("two strips of " + width, number(pages, 4, 4), 8 + 3 * width + 16 + width % 2);
        }
    }

    private static void sizes() {
        for (int scheme : SCHEMES) {
            for (int rows = 1; rows <= 3; rows++) {
                FaxPages pages = Pages.bilevel("#.#.#.#.#.", ".#.#.#.#.#", "##########");
                int size = pages.write(scheme, rows == 2, rows);
                CHECK.same("size", pages.size(), size);
                CHECK.same("behind it", pages.at(size), FaxPages.NONE);
                CHECK.same("picture stays", Pages.shown(pages), "#.#.#.#.#.\n.#.#.#.#.#\n##########\n");
            }
        }
        FaxPages shorter = new FaxPages();
        for (int i = 0; i < 300; i++) {
            shorter.add(255);
        }
        CHECK.same("a shorter file", shorter.write(1, true, 1), 112);
        CHECK.same("size", shorter.size(), 112);
    }

    /** Pictures that no scheme can make small, and those with the longest codes, in as many strips as can be. */
    private static void longestFiles() {
        FaxPages dots = new FaxPages();
        dots.blank(false, 40, 24);
        FaxPages noise = new FaxPages();
        noise.blank(true, 20, 20);
        for (int i = 0; i < 960; i++) {
            dots.set(i % 40, i / 40, (i + i / 40) % 2);
        }
        for (int i = 0; i < 400; i++) {
            noise.set(i % 20, i / 20, (i * 37 + i / 20) & 255);
        }
        for (FaxPages pages : new FaxPages[] {dots, noise}) {
            String shown = Pages.shown(pages);
            for (int scheme : SCHEMES) {
                for (int rows : new int[] {1, 2, pages.info(1)}) {
                    if (pages.info(2) == 0 || scheme != 3 && scheme != 4) {
                        int size = pages.write(scheme, true, rows);
                        CHECK.isTrue("not more than 2000", size == pages.size() && size <= 2000);
                        CHECK.isTrue("it is read", pages.read() > 0);
                        CHECK.same("picture", Pages.shown(pages), shown);
                    }
                }
            }
        }
    }

    private static void refuses(String what, Class<? extends RuntimeException> due, boolean gray,
            Consumer<FaxPages> write) {
        CHECK.refuses(what, due, gray ? Pages.withPast() : Pages.bilevelWithPast(), write);
    }

    private static void noScheme() {
        for (int scheme : new int[] {0, 2, 6, -1, -4, 7, 32772, 32774, -32763, 65537, 65539, 98309, LEAST, MOST}) {
            refuses("scheme " + scheme, IllegalArgumentException.class, false, p -> p.write(scheme, false, 1));
            refuses("scheme " + scheme, IllegalArgumentException.class, true, p -> p.write(scheme, true, 1));
        }
    }

    private static void wrongRows() {
        for (int scheme : SCHEMES) {
            for (int rows : new int[] {0, -1, 4, 24, LEAST, MOST}) {
                refuses("rows " + rows, IllegalArgumentException.class, false, p -> p.write(scheme, true, rows));
            }
            for (int rows = 1; rows <= 3; rows++) {
                CHECK.isTrue("rows " + rows, Pages.bilevelWithPast().write(scheme, true, rows) > 0);
            }
        }
        for (int scheme : new int[] {1, 5, 32773}) {
            for (int rows : new int[] {0, -1, 3, LEAST, MOST}) {
                refuses("rows " + rows, IllegalArgumentException.class, true, p -> p.write(scheme, true, rows));
            }
            for (int rows = 1; rows <= 2; rows++) {
                CHECK.isTrue("rows " + rows, Pages.withPast().write(scheme, true, rows) > 0);
            }
        }
    }

    private static void grayFax() {
        for (int scheme : new int[] {3, 4}) {
            for (int rows = 1; rows <= 2; rows++) {
                int height = rows;
                refuses("gray and " + scheme, IllegalStateException.class, true, p -> p.write(scheme, true, height));
                refuses("gray and " + scheme, IllegalStateException.class, true, p -> p.write(scheme, false, height));
            }
            FaxPages pages = Pages.withPast();
            pages.blank(false, 1, 1);
            CHECK.isTrue("bilevel again", pages.write(scheme, true, 1) > 0);
        }
    }

    private static void firstWins() {
        for (int scheme : new int[] {3, 4}) {
            for (int rows : new int[] {0, -1, 3, LEAST, MOST}) {
                refuses("rows " + rows, IllegalArgumentException.class, true, p -> p.write(scheme, true, rows));
            }
        }
    }

    private static void againAndAgain() {
        FaxPages pages = Pages.bilevel("#.#.#.#.#.", ".#.#.#.#.#");
        String[] first = new String[2];
        for (int i = 0; i < 2; i++) {
            StringBuilder all = new StringBuilder();
            for (int scheme : new int[] {5, 3, 32773, 4, 1}) {
                pages.write(scheme, i == 1, 1);
                pages.write(scheme, false, 2);
                all.append(Pages.hex(pages, 0, pages.size()));
                pages.put(8, 170);
                pages.read();
                pages.cut(9);
            }
            first[i] = all.toString();
            CHECK.refuses("a refused call between", IllegalArgumentException.class, pages, p -> p.write(5, true, 3));
        }
        CHECK.same("the same files again", first[1], first[0]);
    }
}
