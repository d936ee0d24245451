import java.util.function.IntFunction;

/** Pictures and files as texts, for the tests. */
final class Pages {
    private Pages() {
    }

    /** A bilevel picture: rows behind one another, '#' black and '.' white. */
    static FaxPages bilevel(String... rows) {
        FaxPages pages = new FaxPages();
        pages.blank(false, rows[0].length(), rows.length);
        for (int y = 0; y < rows.length; y++) {
            for (int x = 0; x < rows[y].length(); x++) {
                if (rows[y].charAt(x) == '#') {
                    pages.set(x, y, 1);
                }
            }
        }
        return pages;
    }

    static FaxPages gray(int width, int... pixels) {
        FaxPages pages = new FaxPages();
        pages.blank(true, width, pixels.length / width);
        for (int i = 0; i < pixels.length; i++) {
            pages.set(i % width, i / width, pixels[i]);
        }
        return pages;
    }

    /** With a picture and a file that was written and read, all of it unlike what a new object has. */
    static FaxPages withPast() {
        FaxPages pages = gray(3, 11, 22, 33, 44, 55, 255);
        pages.write(32773, true, 1);
        pages.read();
        return pages;
    }

    static FaxPages bilevelWithPast() {
        FaxPages pages = bilevel("#.#", ".##", "##.");
        pages.write(4, true, 2);
        pages.read();
        return pages;
    }

    /** An object whose file has these bytes, but was neither written nor read. */
    static FaxPages ofBytes(int... bytes) {
        FaxPages pages = new FaxPages();
        for (int b : bytes) {
            pages.add(b);
        }
        return pages;
    }

    /** As bilevel takes it; gray pixels as numbers. */
    static String shown(FaxPages pages) {
        boolean gray = pages.info(2) == 1;
        IntFunction<String> pixel = v -> gray ? v + " " : v == 1 ? "#" : v == 0 ? "." : "?";
        StringBuilder text = new StringBuilder();
        for (int y = 0; y < pages.info(1); y++) {
            for (int x = 0; x < pages.info(0); x++) {
                text.append(pixel.apply(pages.get(x, y)));
            }
            text.append('\n');
        }
        return text.toString();
    }

    /** The file's bytes from a place up to another one, in hexadecimal. */
    static String hex(FaxPages pages, int from, int to) {
        StringBuilder text = new StringBuilder();
        for (int i = from; i < to; i++) {
            text.append(i == from ? "" : " ").append(String.format("%02x", pages.at(i)));
        }
        return text.toString();
    }

    static byte[] bytes(FaxPages pages) {
        byte[] bytes = new byte[pages.size()];
        for (int i = 0; i < bytes.length; i++) {
            bytes[i] = (byte) pages.at(i);
        }
        return bytes;
    }

    /** Everything that can be asked of an object. */
    static String state(FaxPages pages) {
        StringBuilder text = new StringBuilder(shown(pages));
        for (int i = -1; i <= 7; i++) {
            text.append(pages.info(i)).append(' ');
        }
        return text.append('\n').append(hex(pages, 0, pages.size())).toString();
    }

    /** Bits as bytes, the last one filled with 0; blanks between the bits mean nothing. */
    static int[] packed(String bits) {
        String plain = bits.replace(" ", "");
        int[] bytes = new int[(plain.length() + 7) / 8];
        for (int i = 0; i < plain.length(); i++) {
            bytes[i / 8] |= (plain.charAt(i) - '0') << 7 - i % 8;
        }
        return bytes;
    }

    static String packedHex(String bits) {
        StringBuilder text = new StringBuilder();
        for (int b : packed(bits)) {
            text.append(text.length() == 0 ? "" : " ").append(String.format("%02x", b));
        }
        return text.toString();
    }

    /** Numbers as bits, each with so many. */
    static String codes(int width, int... numbers) {
        StringBuilder text = new StringBuilder();
        for (int number : numbers) {
            for (int k = width - 1; k >= 0; k--) {
                text.append(number >> k & 1);
            }
        }
        return text.toString();
    }
}
