import java.util.ArrayList;
import java.util.Arrays;
import java.util.HashMap;
import java.util.List;
import java.util.Map;
import java.util.TreeMap;

/** The document once more, as slow and as plain as can be: bits are texts of 0 and 1. */
final class Model {
    static final String[] WHITE = ("00110101 000111 0111 1000 1011 1100 1110 1111 10011 10100 00111 01000 001000"
        + " 000011 110100 110101 101010 101011 0100111 0001100 0001000 0010111 0000011 0000100 0101000 0101011 0010011"
        + " 0100100 0011000 00000010 00000011 00011010 00011011 00010010 00010011 00010100 00010101 00010110 00010111"
        + " 00101000 00101001").split(" ");
    static final String[] BLACK = ("0000110111 010 11 10 011 0011 0010 00011 000101 000100 0000100 0000101"
        + " 0000111 00000100 00000111 000011000 0000010111 0000011000 0000001000 00001100111 00001101000 00001101100"
        + " 00000110111 00000101000 00000010111 00000011000 000011001010 000011001011 000011001100 000011001101"
        + " 000001101000 000001101001 000001101010 000001101011 000011010010 000011010011 000011010100 000011010101"
        + " 000011010110 000011010111 000001101100").split(" ");
    private static final String[] VERTICAL = "0000010 000010 010 1 011 000011 0000011".split(" ");
    static final String[] MODES = "0000010 000010 010 1 011 000011 0000011 0001 001".split(" ");
    static final String MARK = "000000000001";
    private static final List<Integer> NINE = List.of(256, 257, 258, 259, 262, 273, 278, 279, 292);

    /** The file is not one; the number is what read answers. */
    private static final class Fault extends Exception {
        private static final long serialVersionUID = 1;
        private final int answer;

        private Fault(int answer) {
            this.answer = answer;
        }
    }

    private boolean gray;
    private int[][] rows = new int[1][1];
    private List<Integer> file = new ArrayList<>();
    private int[] known;
    private String strip;

    void blank(boolean newGray, int width, int height) {
        if (width < 1 || height < 1 || width > (newGray ? 20 : 40) || height > (newGray ? 20 : 24)) {
            throw new IllegalArgumentException();
        }
        gray = newGray;
        rows = new int[height][width];
    }

    void set(int x, int y, int v) {
        if (get(x, y) == -9) {
            throw new IndexOutOfBoundsException();
        }
        if (v < 0 || v > (gray ? 255 : 1)) {
            throw new IllegalArgumentException();
        }
        rows[y][x] = v;
    }

    int get(int x, int y) {
        return x < 0 || y < 0 || y >= rows.length || x >= rows[0].length ? -9 : rows[y][x];
    }

    int info(int what) {
        if (what >= 0 && what <= 2) {
            return what == 0 ? rows[0].length : what == 1 ? rows.length : gray ? 1 : 0;
        }
        return known == null || what < 3 || what > 6 ? -9 : known[what - 3];
    }

    int size() {
        return file.size();
    }

    int at(int i) {
        return i < 0 || i >= file.size() ? -9 : file.get(i);
    }

    int put(int i, int b) {
        if (at(i) == -9) {
            throw new IndexOutOfBoundsException();
        }
        if ((b & 255) != b) {
            throw new IllegalArgumentException();
        }
        return file.set(i, b);
    }

    boolean add(int b) {
        return (b & 255) == b && file.size() < 2000 && file.add(b);
    }

    int cut(int many) {
        if (many < 0) {
            throw new IllegalArgumentException();
        }
        int gone = Math.max(0, file.size() - many);
        file = new ArrayList<>(file.subList(0, file.size() - gone));
        return gone;
    }

    // Writing.

    int write(int scheme, boolean motorola, int stripRows) {
        if (!Arrays.asList(1, 3, 4, 5, 32773).contains(scheme) || stripRows < 1 || stripRows > rows.length) {
            throw new IllegalArgumentException();
        }
        if (gray && (scheme == 3 || scheme == 4)) {
            throw new IllegalStateException();
        }
        List<Integer> data = new ArrayList<>();
        List<Integer> places = new ArrayList<>();
        List<Integer> sizes = new ArrayList<>();
        for (int y = 0; y < rows.length; y += stripRows) {
            String bits = packed(scheme, Arrays.copyOfRange(rows, y, Math.min(rows.length, y + stripRows)));
            bits += "0".repeat(Math.floorMod(-bits.length(), 8));
            places.add(8 + data.size());
            sizes.add(bits.length() / 8);
            for (int i = 0; i < bits.length(); i += 8) {
                data.add(Integer.parseInt(bits.substring(i, i + 8), 2));
            }
        }
        int strips = places.size();
        int places0 = places.get(0);
        int sizes0 = sizes.get(0);
        if (strips > 1) {
            places0 = 8 + data.size();
            places.forEach(v -> data.addAll(number(motorola, 4, v)));
            sizes0 = 8 + data.size();
            sizes.forEach(v -> data.addAll(number(motorola, 4, v)));
        }
        if (data.size() % 2 == 1) {
            data.add(0);
        }
        file = new ArrayList<>(motorola ? List.of(77, 77) : List.of(73, 73));
        file.addAll(number(motorola, 2, 42));
        file.addAll(number(motorola, 4, 8 + data.size()));
        file.addAll(data);
        file.addAll(number(motorola, 2, scheme == 3 ? 9 : 8));
        int[][] tags = {{256, 3, 1, rows[0].length}, {257, 3, 1, rows.length}, {258, 3, 1, gray ? 8 : 1},
            {259, 3, 1, scheme}, {262, 3, 1, gray ? 1 : 0}, {273, 4, strips, places0}, {278, 3, 1, stripRows},
            {279, 4, strips, sizes0}, {292, 4, 1, 1}};
        for (int[] tag : tags) {
            if (tag[0] != 292 || scheme == 3) {
                file.addAll(number(motorola, 2, tag[0]));
                file.addAll(number(motorola, 2, tag[1]));
                file.addAll(number(motorola, 4, tag[2]));
                file.addAll(number(motorola, tag[1] == 3 ? 2 : 4, tag[3]));
                file.addAll(tag[1] == 3 ? List.of(0, 0) : List.of());
            }
        }
        file.addAll(List.of(0, 0, 0, 0));
        known = new int[] {scheme, motorola ? 1 : 0, stripRows, strips};
        return file.size();
    }

    private static List<Integer> number(boolean motorola, int size, int value) {
        List<Integer> bytes = new ArrayList<>();
        for (int i = 0; i < size; i++) {
            bytes.add(motorola ? 0 : bytes.size(), value >> 8 * i & 255);
        }
        return bytes;
    }

    private static String bits(int value, int count) {
        String text = Integer.toBinaryString(value);
        return "0".repeat(count - text.length()) + text;
    }

    private String packed(int scheme, int[][] part) {
        StringBuilder out = new StringBuilder();
        if (scheme == 3 || scheme == 4) {
            for (int y = 0; y < part.length; y++) {
                boolean byItself = scheme == 3 && y % 4 == 0;
                out.append(scheme == 4 ? "" : MARK + (byItself ? "1" : "0"));
                out.append(byItself ? byItself(part[y]) : byAnother(part[y], y == 0 ? new int[part[y].length] : part[y - 1]));
            }
            return out.append(scheme == 4 ? MARK + MARK : "").toString();
        }
        if (scheme == 5) {
            StringBuilder all = new StringBuilder();
            for (int[] row : part) {
                all.append(rowText(row));
            }
            return table(all.toString());
        }
        for (int[] row : part) {
            String text = rowText(row);
            text = scheme == 1 ? text : runs(text);
            text.chars().forEach(c -> out.append(bits(c, 8)));
        }
        return out.toString();
    }

    /** A row's bytes as characters. */
    private String rowText(int[] row) {
        StringBuilder text = new StringBuilder();
        if (gray) {
            for (int v : row) {
                text.append((char) v);
            }
            return text.toString();
        }
        StringBuilder line = new StringBuilder();
        for (int v : row) {
            line.append(v);
        }
        line.append("0".repeat(Math.floorMod(-row.length, 8)));
        for (int i = 0; i < line.length(); i += 8) {
            text.append((char) Integer.parseInt(line.substring(i, i + 8), 2));
        }
        return text.toString();
    }

    private static String runs(String row) {
        if (row.isEmpty()) {
            return "";
        }
        int n = 1;
        while (n < row.length() && n < 128 && row.charAt(n) == row.charAt(0)) {
            n++;
        }
        if (n >= 2) {
            return (char) (257 - n) + row.substring(0, 1) + runs(row.substring(n));
        }
        while (n < row.length() && n < 128 && (n + 1 == row.length() || row.charAt(n) != row.charAt(n + 1))) {
            n++;
        }
        return (char) (n - 1) + row.substring(0, n) + runs(row.substring(n));
    }

    private static int codeBits(int nth) {
        return nth >= 767 ? 11 : nth >= 255 ? 10 : 9;
    }

    private static String table(String text) {
        Map<String, Integer> entries = new HashMap<>();
        for (int i = 0; i < 256; i++) {
            entries.put(String.valueOf((char) i), i);
        }
        StringBuilder out = new StringBuilder(bits(256, 9));
        int nth = 1;
        int next = 258;
        for (int i = 0; i < text.length();) {
            int n = 1;
            for (int k = 1; i + k <= text.length(); k++) {
                n = entries.containsKey(text.substring(i, i + k)) ? k : n;
            }
            out.append(bits(entries.get(text.substring(i, i + n)), codeBits(nth++)));
            if (i + n < text.length()) {
                entries.put(text.substring(i, i + n + 1), next++);
            }
            i += n;
        }
        return out.append(bits(257, codeBits(nth))).toString();
    }

    private static String byItself(int[] row) {
        StringBuilder out = new StringBuilder();
        int colour = 0;
        for (int x = 0; x < row.length; colour = 1 - colour) {
            int n = 0;
            while (x < row.length && row[x] == colour) {
                x++;
                n++;
            }
            out.append((colour == 0 ? WHITE : BLACK)[n]);
        }
        return out.toString();
    }

    /** The first pixel behind x of the colour, or, if so asked, the first that is just changed to it. */
    private static int behind(int[] row, int x, int colour, boolean changed) {
        for (int i = x + 1; i < row.length; i++) {
            if (row[i] == colour && (!changed || i == 0 || row[i - 1] != colour)) {
                return i;
            }
        }
        return row.length;
    }

    private static String byAnother(int[] row, int[] other) {
        StringBuilder out = new StringBuilder();
        int a = -1;
        int colour = 0;
        while (a != row.length) {
            int a1 = behind(row, a, 1 - colour, false);
            int a2 = behind(row, a1, colour, false);
            int b1 = behind(other, a, 1 - colour, true);
            int b2 = behind(other, b1, colour, false);
            if (b2 < a1) {
                out.append("0001");
                a = b2;
            } else if (Math.abs(a1 - b1) <= 3) {
                out.append(VERTICAL[a1 - b1 + 3]);
                a = a1;
                colour = 1 - colour;
            } else {
                out.append("001").append((colour == 0 ? WHITE : BLACK)[a1 - (a < 0 ? 0 : a)]);
                out.append((colour == 1 ? WHITE : BLACK)[a2 - a1]);
                a = a2;
            }
        }
        return out.toString();
    }

    // Reading.

    int read() {
        try {
            return understood();
        } catch (Fault fault) {
            return fault.answer;
        }
    }

    private static void need(boolean held, int answer) throws Fault {
        if (!held) {
            throw new Fault(answer);
        }
    }

    private long numberAt(boolean motorola, long place, int size) throws Fault {
        need(place + size <= file.size(), FaxPages.TAGS);
        long value = 0;
        for (int i = 0; i < size; i++) {
            value = value * 256 + file.get((int) place + (motorola ? i : size - 1 - i));
        }
        return value;
    }

    private int understood() throws Fault {
        need(file.size() >= 8, FaxPages.HEADER);
        List<Integer> begin = file.subList(0, 4);
        boolean motorola = begin.equals(List.of(77, 77, 0, 42));
        need(motorola || begin.equals(List.of(73, 73, 42, 0)), FaxPages.HEADER);
        Map<Integer, long[]> values = tagValues(motorola);
        Map<Integer, Long> tag = new HashMap<>();
        for (int number : NINE) {
            boolean strips = number == 273 || number == 279;
            if (values.containsKey(number) && !strips) {
                need(values.get(number).length == 1, FaxPages.TAGS);
                tag.put(number, values.get(number)[0]);
            }
            need(values.containsKey(number) || number == 292, FaxPages.TAGS);
        }
        boolean newGray = tag.get(258) == 8;
        long width = tag.get(256);
        long height = tag.get(257);
        long scheme = tag.get(259);
        long stripRows = tag.get(278);
        need(tag.get(258) == 1 || newGray, FaxPages.TAGS);
        need(tag.get(262) == (newGray ? 1 : 0), FaxPages.TAGS);
        need(width > 0 && height > 0 && width <= (newGray ? 20 : 40) && height <= (newGray ? 20 : 24), FaxPages.TAGS);
        need(scheme == 1 || scheme == 5 || scheme == 32773 || !newGray && (scheme == 3 || scheme == 4), FaxPages.TAGS);
        need(stripRows >= 1 && stripRows <= height, FaxPages.TAGS);
        need(tag.containsKey(292) ? tag.get(292) == 1 : scheme != 3, FaxPages.TAGS);
        int strips = 0;
        for (int y = 0; y < height; y += stripRows) {
            strips++;
        }
        need(values.get(273).length == strips && values.get(279).length == strips, FaxPages.TAGS);
        for (int i = 0; i < strips; i++) {
            need(values.get(273)[i] + values.get(279)[i] <= file.size(), FaxPages.STRIPS);
        }
        int[][] newRows = new int[(int) height][(int) width];
        for (int i = 0; i < strips; i++) {
            openStrip((int) values.get(273)[i], (int) values.get(279)[i]);
            int from = (int) (i * stripRows);
            int to = (int) Math.min(height, from + stripRows);
            unpack((int) scheme, newGray, Arrays.copyOfRange(newRows, from, to));
        }
        gray = newGray;
        rows = newRows;
        known = new int[] {(int) scheme, motorola ? 1 : 0, (int) stripRows, strips};
        return strips;
    }

    private Map<Integer, long[]> tagValues(boolean motorola) throws Fault {
        long place = numberAt(motorola, 4, 4);
        long many = numberAt(motorola, place, 2);
        need(numberAt(motorola, place + 2 + 12 * many, 4) == 0, FaxPages.TAGS);
        TreeMap<Integer, long[]> values = new TreeMap<>();
        for (int i = 0; i < many; i++) {
            long tag = place + 2 + 12 * i;
            int number = (int) numberAt(motorola, tag, 2);
            need(values.isEmpty() || number > values.lastKey(), FaxPages.TAGS);
            values.put(number, NINE.contains(number) ? valuesOf(motorola, tag) : new long[0]);
        }
        return values;
    }

    private long[] valuesOf(boolean motorola, long tag) throws Fault {
        long type = numberAt(motorola, tag + 2, 2);
        need(type == 3 || type == 4, FaxPages.TAGS);
        int size = type == 3 ? 2 : 4;
        long count = numberAt(motorola, tag + 4, 4);
        need(count <= 24, FaxPages.TAGS);
        long place = size * count <= 4 ? tag + 8 : numberAt(motorola, tag + 8, 4);
        long[] values = new long[(int) count];
        for (int i = 0; i < count; i++) {
            values[i] = numberAt(motorola, place + i * size, size);
        }
        return values;
    }

    private void openStrip(int place, int size) {
        StringBuilder text = new StringBuilder();
        for (int b : file.subList(place, place + size)) {
            text.append(bits(b, 8));
        }
        strip = text.toString();
    }

    private String take(int count) throws Fault {
        need(strip.length() >= count, FaxPages.DATA);
        String taken = strip.substring(0, count);
        strip = strip.substring(count);
        return taken;
    }

    private int takeNumber(int count) throws Fault {
        return Integer.parseInt(take(count), 2);
    }

    private int takeOne(String[] codes) throws Fault {
        for (int i = 0; i < codes.length; i++) {
            if (strip.startsWith(codes[i])) {
                take(codes[i].length());
                return i;
            }
        }
        throw new Fault(FaxPages.DATA);
    }

    private void unpack(int scheme, boolean newGray, int[][] part) throws Fault {
        int rowBytes = newGray ? part[0].length : (part[0].length + 7) / 8;
        switch (scheme) {
            case 1:
                for (int[] row : part) {
                    StringBuilder text = new StringBuilder();
                    for (int i = 0; i < rowBytes; i++) {
                        text.append((char) takeNumber(8));
                    }
                    fill(newGray, row, text.toString());
                }
                need(strip.isEmpty(), FaxPages.DATA);
                break;
            case 32773:
                for (int[] row : part) {
                    fill(newGray, row, unpackedRow(rowBytes));
                }
                need(strip.isEmpty(), FaxPages.DATA);
                break;
            case 5:
                String text = unpackedTable();
                need(text.length() == rowBytes * part.length, FaxPages.DATA);
                for (int y = 0; y < part.length; y++) {
                    fill(newGray, part[y], text.substring(y * rowBytes, (y + 1) * rowBytes));
                }
                break;
            default:
                unpackFax(scheme, part);
        }
        need(strip.length() < 8 && !strip.contains("1"), FaxPages.DATA);
    }

    private static void fill(boolean newGray, int[] row, String text) throws Fault {
        StringBuilder line = new StringBuilder();
        for (int i = 0; i < text.length(); i++) {
            if (newGray) {
                row[i] = text.charAt(i);
            }
            line.append(bits(text.charAt(i), 8));
        }
        if (!newGray) {
            for (int x = 0; x < row.length; x++) {
                row[x] = line.charAt(x) - '0';
            }
            need(!line.substring(row.length).contains("1"), FaxPages.DATA);
        }
    }

    private String unpackedRow(int rowBytes) throws Fault {
        StringBuilder text = new StringBuilder();
        while (text.length() < rowBytes) {
            int head = takeNumber(8);
            if (head < 128) {
                for (int i = 0; i <= head; i++) {
                    text.append((char) takeNumber(8));
                }
            } else if (head > 128) {
                text.append(String.valueOf((char) takeNumber(8)).repeat(257 - head));
            }
        }
        need(text.length() == rowBytes, FaxPages.DATA);
        return text.toString();
    }

    private String unpackedTable() throws Fault {
        need(takeNumber(9) == 256, FaxPages.DATA);
        StringBuilder text = new StringBuilder();
        List<String> made = new ArrayList<>();
        String before = null;
        int nth = 1;
        while (text.length() <= 400) {
            int code = takeNumber(codeBits(nth++));
            if (code == 257) {
                return text.toString();
            }
            if (code == 256) {
                made.clear();
                before = null;
                nth = 1;
                continue;
            }
            String entry;
            if (code < 256) {
                entry = String.valueOf((char) code);
            } else if (code - 258 < made.size()) {
                entry = made.get(code - 258);
            } else {
                need(before != null && code - 258 == made.size(), FaxPages.DATA);
                entry = before + before.charAt(0);
            }
            if (before != null) {
                made.add(before + entry.charAt(0));
            }
            text.append(entry);
            before = entry;
        }
        throw new Fault(FaxPages.DATA);
    }

    private void unpackFax(int scheme, int[][] part) throws Fault {
        for (int y = 0; y < part.length; y++) {
            if (scheme == 3) {
                need(take(12).equals(MARK), FaxPages.DATA);
            }
            if (scheme == 3 && take(1).equals("1")) {
                unpackByItself(part[y]);
            } else {
                need(scheme == 4 || y > 0, FaxPages.DATA);
                unpackByAnother(part[y], y == 0 ? new int[part[y].length] : part[y - 1]);
            }
        }
        if (scheme == 4) {
            need(take(24).equals(MARK + MARK), FaxPages.DATA);
        }
    }

    private void unpackByItself(int[] row) throws Fault {
        int x = 0;
        for (int colour = 0; x < row.length; colour = 1 - colour) {
            int n = takeOne(colour == 0 ? WHITE : BLACK);
            need(x + n <= row.length, FaxPages.DATA);
            Arrays.fill(row, x, x + n, colour);
            x += n;
        }
    }

    private void unpackByAnother(int[] row, int[] other) throws Fault {
        int a = -1;
        int colour = 0;
        while (a < row.length) {
            int b1 = behind(other, a, 1 - colour, true);
            int b2 = behind(other, b1, colour, false);
            int start = a < 0 ? 0 : a;
            int mode = takeOne(MODES);
            if (mode == 8) {
                int n = takeOne(colour == 0 ? WHITE : BLACK);
                int m = takeOne(colour == 1 ? WHITE : BLACK);
                need(n + m > 0 && start + n + m <= row.length, FaxPages.DATA);
                Arrays.fill(row, start, start + n, colour);
                Arrays.fill(row, start + n, start + n + m, 1 - colour);
                a = start + n + m;
            } else if (mode == 7) {
                need(b2 < row.length, FaxPages.DATA);
                Arrays.fill(row, start, b2, colour);
                a = b2;
            } else {
                int a1 = b1 + mode - 3;
                need(a1 > a && a1 <= row.length, FaxPages.DATA);
                Arrays.fill(row, start, a1, colour);
                a = a1;
                colour = 1 - colour;
            }
        }
    }
}
