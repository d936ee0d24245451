import java.util.Arrays;

/** Small pictures, written as files with tags and strips in five schemes, and read back from such files. */
public final class FaxPages {
    public static final int HEADER = -1;
    public static final int TAGS = -2;
    public static final int STRIPS = -3;
    public static final int DATA = -4;
    public static final int NONE = -9;

    private static final int MOST_FILE_BYTES = 2000;
    private static final int MOST_STRIPS = 24;
    private static final int MOST_PIXELS = 960;
    private static final int MOST_ROW_BYTES = 20;
    private static final int MOST_STRIP_BYTES = 400;

    private static final int PLAIN_SCHEME = 1;
    private static final int G3_SCHEME = 3;
    private static final int G4_SCHEME = 4;
    private static final int TABLE_SCHEME = 5;
    private static final int RUNS_SCHEME = 32773;

    private static final int LETTER_I = 73;
    private static final int LETTER_M = 77;
    private static final int MAGIC = 42;
    private static final int HEADER_BYTES = 8;
    private static final int PLACE_OF_TAGS = 4;

    private static final int SHORT = 3;
    private static final int LONG = 4;
    private static final int SHORT_BYTES = 2;
    private static final int LONG_BYTES = 4;
    private static final int TAG_BYTES = 12;

    private static final int WIDTH = 256;
    private static final int HEIGHT = 257;
    private static final int BITS = 258;
    private static final int SCHEME = 259;
    private static final int COLOURS = 262;
    private static final int STRIP_PLACES = 273;
    private static final int STRIP_ROWS = 278;
    private static final int STRIP_SIZES = 279;
    private static final int G3_LINES = 292;
    private static final int[] NUMBERS = {
        WIDTH, HEIGHT, BITS, SCHEME, COLOURS, STRIP_PLACES, STRIP_ROWS, STRIP_SIZES, G3_LINES};

    private static final int WHITE = 0;
    private static final int BLACK = 1;

    // A code stands behind a leading 1, so that its own leading zeros count.
    private static final int[] WHITE_RUNS = {
        0b1_00110101, 0b1_000111, 0b1_0111, 0b1_1000, 0b1_1011, 0b1_1100, 0b1_1110, 0b1_1111,
        0b1_10011, 0b1_10100, 0b1_00111, 0b1_01000, 0b1_001000, 0b1_000011, 0b1_110100, 0b1_110101,
        0b1_101010, 0b1_101011, 0b1_0100111, 0b1_0001100, 0b1_0001000, 0b1_0010111, 0b1_0000011,
        0b1_0000100, 0b1_0101000, 0b1_0101011, 0b1_0010011, 0b1_0100100, 0b1_0011000,
        0b1_00000010, 0b1_00000011, 0b1_00011010, 0b1_00011011, 0b1_00010010, 0b1_00010011,
        0b1_00010100, 0b1_00010101, 0b1_00010110, 0b1_00010111, 0b1_00101000, 0b1_00101001};
    private static final int[] BLACK_RUNS = {
        0b1_0000110111, 0b1_010, 0b1_11, 0b1_10, 0b1_011, 0b1_0011, 0b1_0010, 0b1_00011,
        0b1_000101, 0b1_000100, 0b1_0000100, 0b1_0000101, 0b1_0000111, 0b1_00000100, 0b1_00000111,
        0b1_000011000, 0b1_0000010111, 0b1_0000011000, 0b1_0000001000, 0b1_00001100111,
        0b1_00001101000, 0b1_00001101100, 0b1_00000110111, 0b1_00000101000, 0b1_00000010111,
        0b1_00000011000, 0b1_000011001010, 0b1_000011001011, 0b1_000011001100, 0b1_000011001101,
        0b1_000001101000, 0b1_000001101001, 0b1_000001101010, 0b1_000001101011, 0b1_000011010010,
        0b1_000011010011, 0b1_000011010100, 0b1_000011010101, 0b1_000011010110, 0b1_000011010111,
        0b1_000001101100};

    // MODES 0 .. 6: a1 is b1 - 3 .. b1 + 3.
    private static final int FARTHEST = 3;
    private static final int PASS = 7;
    private static final int TWO_RUNS = 8;
    private static final int[] MODES = {
        0b1_0000010, 0b1_000010, 0b1_010, 0b1_1, 0b1_011, 0b1_000011, 0b1_0000011, 0b1_0001, 0b1_001};

    private final Bytes file;
    private final BitReader bits;
    private final Tags tags;
    private final Packing plain;
    private final Packing runs;
    private final Packing table;
    private final Packing g3;
    private final Packing g4;
    private final int[] stripPlaces;
    private final int[] stripSizes;
    private Picture picture;
    // What is read is drawn here first, so that a file that turns out wrong changes nothing.
    private Picture draft;
    private boolean fileKnown;
    private int knownScheme;
    private boolean knownMotorola;
    private int knownRows;
    private int knownStrips;

    public FaxPages() {
        Bytes bytesOfFile = new Bytes();
        BitReader bitsOfStrip = new BitReader(bytesOfFile);
        Lines lines = new Lines(bytesOfFile, bitsOfStrip);
        file = bytesOfFile;
        bits = bitsOfStrip;
        tags = new Tags(bytesOfFile);
        plain = new Plain(bytesOfFile, bitsOfStrip);
        runs = new Runs(bytesOfFile, bitsOfStrip);
        table = new Table(bytesOfFile, bitsOfStrip);
        g3 = new Fax(true, lines, bytesOfFile, bitsOfStrip);
        g4 = new Fax(false, lines, bytesOfFile, bitsOfStrip);
        stripPlaces = new int[MOST_STRIPS];
        stripSizes = new int[MOST_STRIPS];
        picture = new Picture();
        draft = new Picture();
    }

    public void blank(boolean gray, int width, int height) throws IllegalArgumentException {
        if (!sizeCanBe(gray, width, height)) {
            throw new IllegalArgumentException();
        }
        picture.clear(gray, width, height);
    }

    public void set(int x, int y, int v) throws IndexOutOfBoundsException, IllegalArgumentException {
        if (!picture.has(x, y)) {
            throw new IndexOutOfBoundsException();
        }
        if (v < 0 || v > (picture.gray ? 255 : BLACK)) {
            throw new IllegalArgumentException();
        }
        picture.paint(x, y, v);
    }

    public int get(int x, int y) {
        return picture.has(x, y) ? picture.pixel(x, y) : NONE;
    }

    public int info(int what) {
        switch (what) {
            case 0:
                return picture.width;
            case 1:
                return picture.height;
            case 2:
                return picture.gray ? 1 : 0;
            default:
                return fileKnown ? infoOfFile(what) : NONE;
        }
    }

    public int write(int scheme, boolean motorola, int rows)
            throws IllegalArgumentException, IllegalStateException {
        if (!isScheme(scheme) || rows < 1 || rows > picture.height) {
            throw new IllegalArgumentException();
        }
        if (picture.gray && isFax(scheme)) {
            throw new IllegalStateException();
        }
        int strips = stripsOf(picture.height, rows);
        file.start(motorola);
        packStrips(packingOf(scheme), rows, strips);
        writeTags(scheme, rows, strips);
        know(scheme, motorola, rows, strips);
        return file.used;
    }

    public int read() {
        if (!file.understandHeader()) {
            return HEADER;
        }
        if (!tags.understand()) {
            return TAGS;
        }
        if (!tags.stripsAreInFile()) {
            return STRIPS;
        }
        if (!unpackStrips()) {
            return DATA;
        }
        Picture old = picture;
        picture = draft;
        draft = old;
        know(tags.scheme, file.motorola, tags.rows, tags.strips);
        return tags.strips;
    }

    public int size() {
        return file.used;
    }

    public int at(int i) {
        return file.has(i) ? file.byteAt(i) : NONE;
    }

    public int put(int i, int b) throws IndexOutOfBoundsException, IllegalArgumentException {
        if (!file.has(i)) {
            throw new IndexOutOfBoundsException();
        }
        if (!isByte(b)) {
            throw new IllegalArgumentException();
        }
        int old = file.byteAt(i);
        file.change(i, b);
        return old;
    }

    public boolean add(int b) {
        if (!isByte(b) || file.used >= MOST_FILE_BYTES) {
            return false;
        }
        file.append(b);
        return true;
    }

    public int cut(int many) throws IllegalArgumentException {
        if (many < 0) {
            throw new IllegalArgumentException();
        }
        int old = file.used;
        file.keep(many);
        return old - file.used;
    }

    private static boolean isByte(int b) {
        return b >= 0 && b <= 255;
    }

    private static boolean isFax(long scheme) {
        return scheme == G3_SCHEME || scheme == G4_SCHEME;
    }

    private static boolean isScheme(long scheme) {
        return scheme == PLAIN_SCHEME || scheme == RUNS_SCHEME || scheme == TABLE_SCHEME || isFax(scheme);
    }

    private static boolean sizeCanBe(boolean gray, long width, long height) {
        return width >= 1 && width <= (gray ? 20 : 40) && height >= 1 && height <= (gray ? 20 : 24);
    }

    private static int stripsOf(int height, int rows) {
        return rows < 1 ? 0 : (height + rows - 1) / rows;
    }

    /** How many bits stand behind a code's leading 1. */
    private static int lengthOf(int code) {
        int count = 0;
        for (int rest = code; rest > 1; rest >>= 1) {
            count++;
        }
        return count;
    }

    private int infoOfFile(int what) {
        switch (what) {
            case 3:
                return knownScheme;
            case 4:
                return knownMotorola ? 1 : 0;
            case 5:
                return knownRows;
            case 6:
                return knownStrips;
            default:
                return NONE;
        }
    }

    private void know(int scheme, boolean motorola, int rows, int strips) {
        fileKnown = true;
        knownScheme = scheme;
        knownMotorola = motorola;
        knownRows = rows;
        knownStrips = strips;
    }

    private Packing packingOf(int scheme) {
        switch (scheme) {
            case RUNS_SCHEME:
                return runs;
            case TABLE_SCHEME:
                return table;
            case G3_SCHEME:
                return g3;
            case G4_SCHEME:
                return g4;
            default:
                return plain;
        }
    }

    private void packStrips(Packing packing, int rows, int strips) {
        for (int i = 0; i < strips && i < MOST_STRIPS; i++) {
            stripPlaces[i] = file.used;
            packing.pack(picture, i * rows, Math.min(picture.height, (i + 1) * rows));
            stripSizes[i] = file.used - stripPlaces[i];
        }
    }

    private boolean unpackStrips() {
        Packing packing = packingOf(tags.scheme);
        draft.clear(tags.gray, tags.width, tags.height);
        for (int i = 0; i < tags.strips; i++) {
            bits.open((int) tags.valueOf(STRIP_PLACES, i), (int) tags.valueOf(STRIP_SIZES, i));
            if (!packing.unpack(draft, i * tags.rows, Math.min(tags.height, (i + 1) * tags.rows))) {
                return false;
            }
        }
        return true;
    }

    private void writeTags(int scheme, int rows, int strips) {
        int places = strips == 1 ? stripPlaces[0] : appendLongs(stripPlaces, strips);
        int sizes = strips == 1 ? stripSizes[0] : appendLongs(stripSizes, strips);
        if (file.used % 2 == 1) {
            file.append(0);
        }
        file.changeNumber(PLACE_OF_TAGS, LONG_BYTES, file.used);
        boolean linesTag = scheme == G3_SCHEME;
        file.appendNumber(SHORT_BYTES, linesTag ? NUMBERS.length : NUMBERS.length - 1);
        appendShortTag(WIDTH, picture.width);
        appendShortTag(HEIGHT, picture.height);
        appendShortTag(BITS, picture.gray ? 8 : 1);
        appendShortTag(SCHEME, scheme);
        appendShortTag(COLOURS, picture.gray ? 1 : 0);
        appendLongTag(STRIP_PLACES, strips, places);
        appendShortTag(STRIP_ROWS, rows);
        appendLongTag(STRIP_SIZES, strips, sizes);
        if (linesTag) {
            appendLongTag(G3_LINES, 1, 1);
        }
        file.appendNumber(LONG_BYTES, 0);
    }

    /** Answers the place where the values begin. */
    private int appendLongs(int[] values, int many) {
        int place = file.used;
        for (int i = 0; i < many && i < values.length; i++) {
            file.appendNumber(LONG_BYTES, values[i]);
        }
        return place;
    }

    private void appendShortTag(int number, int value) {
        file.appendNumber(SHORT_BYTES, number);
        file.appendNumber(SHORT_BYTES, SHORT);
        file.appendNumber(LONG_BYTES, 1);
        file.appendNumber(SHORT_BYTES, value);
        file.appendNumber(SHORT_BYTES, 0);
    }

    private void appendLongTag(int number, int count, int valueOrPlace) {
        file.appendNumber(SHORT_BYTES, number);
        file.appendNumber(SHORT_BYTES, LONG);
        file.appendNumber(LONG_BYTES, count);
        file.appendNumber(LONG_BYTES, valueOrPlace);
    }

    /** A picture, as pixels and as the bytes of its rows. */
    private static final class Picture {
        private final int[] pixels;
        private boolean gray;
        private int width;
        private int height;

        private Picture() {
            pixels = new int[MOST_PIXELS];
            width = 1;
            height = 1;
        }

        private void clear(boolean newGray, int newWidth, int newHeight) {
            gray = newGray;
            width = newWidth;
            height = newHeight;
            Arrays.fill(pixels, WHITE);
        }

        private boolean has(int x, int y) {
            return x >= 0 && x < width && y >= 0 && y < height;
        }

        /** Above the picture all is white: what the first line of a strip is told by. */
        private int pixel(int x, int y) {
            return has(x, y) ? pixels[y * width + x] : WHITE;
        }

        private void paint(int x, int y, int v) {
            if (has(x, y)) {
                pixels[y * width + x] = v;
            }
        }

        private int rowBytes() {
            return gray ? width : (width + 7) / 8;
        }

        private int rowByte(int y, int i) {
            if (gray) {
                return pixel(i, y);
            }
            int b = 0;
            for (int x = 8 * i; x < 8 * i + 8; x++) {
                b = b << 1 | pixel(x, y);
            }
            return b;
        }

        /** False if the byte says something of pixels behind the row's end. */
        private boolean paintRowByte(int y, int i, int b) {
            if (gray) {
                paint(i, y, b);
                return true;
            }
            for (int k = 0; k < 8; k++) {
                int v = b >> 7 - k & 1;
                if (v == BLACK && !has(8 * i + k, y)) {
                    return false;
                }
                paint(8 * i + k, y, v);
            }
            return true;
        }

        /** The first pixel of a row from x on that is not of the colour, the width if there is none. */
        private int firstUnlike(int y, int x, int colour) {
            for (int i = x; i < width; i++) {
                if (pixel(i, y) != colour) {
                    return i;
                }
            }
            return width;
        }

        /** As firstUnlike, but where the row changes from the colour; a row begins as if behind the colour. */
        private int firstChange(int y, int x, int colour) {
            for (int i = x; i < width; i++) {
                if (pixel(i, y) != colour && (i == 0 || pixel(i - 1, y) == colour)) {
                    return i;
                }
            }
            return width;
        }
    }

    /** The bytes of the file, with the numbers in them, in the order of the last header written or understood. */
    private static final class Bytes {
        private final int[] bytes;
        private int used;
        private boolean motorola;
        private int freeBits;

        private Bytes() {
            bytes = new int[MOST_FILE_BYTES];
        }

        private boolean has(int i) {
            return i >= 0 && i < used;
        }

        private int byteAt(int i) {
            return i >= 0 && i < used ? bytes[i] : 0;
        }

        private void change(int i, int b) {
            if (i >= 0 && i < used) {
                bytes[i] = b;
            }
        }

        private void append(int b) {
            if (used < MOST_FILE_BYTES) {
                bytes[used] = b;
                used++;
            }
        }

        private void keep(int many) {
            used = Math.min(used, many);
        }

        private int shiftOf(int i, int count) {
            return 8 * (motorola ? count - 1 - i : i);
        }

        private long numberAt(int place, int count) {
            long value = 0;
            for (int i = 0; i < count; i++) {
                value |= (long) byteAt(place + i) << shiftOf(i, count);
            }
            return value;
        }

        private void changeNumber(int place, int count, int value) {
            for (int i = 0; i < count; i++) {
                change(place + i, value >> shiftOf(i, count) & 255);
            }
        }

        private void appendNumber(int count, int value) {
            for (int i = 0; i < count; i++) {
                append(value >> shiftOf(i, count) & 255);
            }
        }

        private void appendBits(int value, int count) {
            for (int i = count - 1; i >= 0; i--) {
                if (freeBits == 0) {
                    append(0);
                    freeBits = 8;
                }
                freeBits--;
                change(used - 1, byteAt(used - 1) | (value >> i & 1) << freeBits);
            }
        }

        /** Appends a code that stands behind a leading 1. */
        private void appendCode(int code) {
            appendBits(code, lengthOf(code));
        }

        private void endBits() {
            freeBits = 0;
        }

        private void start(boolean inMotorolaOrder) {
            used = 0;
            freeBits = 0;
            motorola = inMotorolaOrder;
            append(motorola ? LETTER_M : LETTER_I);
            append(motorola ? LETTER_M : LETTER_I);
            appendNumber(SHORT_BYTES, MAGIC);
            appendNumber(LONG_BYTES, 0);
        }

        private boolean understandHeader() {
            int letter = byteAt(0);
            if (used < HEADER_BYTES || letter != byteAt(1) || letter != LETTER_I && letter != LETTER_M) {
                return false;
            }
            motorola = letter == LETTER_M;
            return numberAt(2, SHORT_BYTES) == MAGIC;
        }
    }

    /** The bits of a strip of the file, one behind the other; -1 where there are no more. */
    private static final class BitReader {
        private final Bytes file;
        private int next;
        private int end;

        private BitReader(Bytes bytesOfFile) {
            file = bytesOfFile;
        }

        private void open(int place, int many) {
            next = 8 * place;
            end = 8 * (place + many);
        }

        private int bit() {
            if (next >= end) {
                return -1;
            }
            int bit = file.byteAt(next / 8) >> 7 - next % 8 & 1;
            next++;
            return bit;
        }

        private int number(int count) {
            if (end - next < count) {
                return -1;
            }
            int value = 0;
            for (int i = 0; i < count; i++) {
                value = value << 1 | bit();
            }
            return value;
        }

        private boolean atEnd() {
            return next == end;
        }

        private boolean onlyFillLeft() {
            int left = end - next;
            return left < 8 && number(left) == 0;
        }
    }

    /** What the tags of the file say. */
    private static final class Tags {
        private static final int MISSING = -1;

        private final Bytes file;
        // Where the tags of NUMBERS stand in the file.
        private final int[] found;
        private boolean gray;
        private int width;
        private int height;
        private int scheme;
        private int rows;
        private int strips;

        private Tags(Bytes bytesOfFile) {
            file = bytesOfFile;
            found = new int[NUMBERS.length];
        }

        private boolean understand() {
            return findTags() && understandPicture() && understandScheme() && understandStrips();
        }

        private boolean findTags() {
            Arrays.fill(found, MISSING);
            long place = file.numberAt(PLACE_OF_TAGS, LONG_BYTES);
            if (place + SHORT_BYTES > file.used) {
                return false;
            }
            int many = (int) file.numberAt((int) place, SHORT_BYTES);
            int first = (int) place + SHORT_BYTES;
            int end = first + many * TAG_BYTES;
            if (end + LONG_BYTES > file.used || file.numberAt(end, LONG_BYTES) != 0) {
                return false;
            }
            int before = -1;
            for (int i = 0; i < many; i++) {
                int number = (int) file.numberAt(first + i * TAG_BYTES, SHORT_BYTES);
                if (number <= before) {
                    return false;
                }
                note(number, first + i * TAG_BYTES);
                before = number;
            }
            return true;
        }

        private void note(int number, int place) {
            for (int i = 0; i < NUMBERS.length; i++) {
                if (NUMBERS[i] == number) {
                    found[i] = place;
                }
            }
        }

        private int placeOf(int number) {
            for (int i = 0; i < NUMBERS.length; i++) {
                if (NUMBERS[i] == number) {
                    return found[i];
                }
            }
            return MISSING;
        }

        private boolean understandPicture() {
            long bits = onlyValue(BITS);
            long newWidth = onlyValue(WIDTH);
            long newHeight = onlyValue(HEIGHT);
            gray = bits == 8;
            if (bits != 1 && bits != 8 || onlyValue(COLOURS) != (gray ? 1 : 0)
                    || !sizeCanBe(gray, newWidth, newHeight)) {
                return false;
            }
            width = (int) newWidth;
            height = (int) newHeight;
            return true;
        }

        private boolean understandScheme() {
            long newScheme = onlyValue(SCHEME);
            if (!isScheme(newScheme) || gray && isFax(newScheme)) {
                return false;
            }
            scheme = (int) newScheme;
            boolean linesTag = placeOf(G3_LINES) != MISSING;
            return linesTag ? onlyValue(G3_LINES) == 1 : scheme != G3_SCHEME;
        }

        private boolean understandStrips() {
            long newRows = onlyValue(STRIP_ROWS);
            if (newRows < 1 || newRows > height) {
                return false;
            }
            rows = (int) newRows;
            strips = stripsOf(height, rows);
            return hasValues(STRIP_PLACES, strips) && hasValues(STRIP_SIZES, strips);
        }

        private boolean stripsAreInFile() {
            for (int i = 0; i < strips; i++) {
                if (valueOf(STRIP_PLACES, i) + valueOf(STRIP_SIZES, i) > file.used) {
                    return false;
                }
            }
            return true;
        }

        /** -1, which no tag's value is, if the tag does not have just one. */
        private long onlyValue(int number) {
            return hasValues(number, 1) ? valueOf(number, 0) : -1;
        }

        private boolean hasValues(int number, int many) {
            int tag = placeOf(number);
            if (tag == MISSING) {
                return false;
            }
            long type = file.numberAt(tag + 2, SHORT_BYTES);
            if (type != SHORT && type != LONG || file.numberAt(tag + 4, LONG_BYTES) != many) {
                return false;
            }
            int bytes = many * bytesOfValue(tag);
            return bytes <= LONG_BYTES || file.numberAt(tag + 8, LONG_BYTES) + bytes <= file.used;
        }

        private int bytesOfValue(int tag) {
            return file.numberAt(tag + 2, SHORT_BYTES) == SHORT ? SHORT_BYTES : LONG_BYTES;
        }

        /** To be asked only of a tag that has its values. */
        private long valueOf(int number, int i) {
            int tag = placeOf(number);
            int bytes = bytesOfValue(tag);
            boolean inside = file.numberAt(tag + 4, LONG_BYTES) * bytes <= LONG_BYTES;
            int place = inside ? tag + 8 : (int) file.numberAt(tag + 8, LONG_BYTES);
            return file.numberAt(place + i * bytes, bytes);
        }
    }

    /** A scheme: the rows from top on, but not bottom, as a strip of the file. */
    private interface Packing {
        void pack(Picture picture, int top, int bottom);

        /** False if the strip that is open does not hold these rows and only these. */
        boolean unpack(Picture picture, int top, int bottom);
    }

    /** The scheme NONE. */
    private static final class Plain implements Packing {
        private final Bytes file;
        private final BitReader bits;

        private Plain(Bytes bytesOfFile, BitReader bitsOfStrip) {
            file = bytesOfFile;
            bits = bitsOfStrip;
        }

        @Override
        public void pack(Picture picture, int top, int bottom) {
            int many = picture.rowBytes();
            for (int y = top; y < bottom; y++) {
                for (int i = 0; i < many; i++) {
                    file.append(picture.rowByte(y, i));
                }
            }
        }

        @Override
        public boolean unpack(Picture picture, int top, int bottom) {
            int many = picture.rowBytes();
            for (int y = top; y < bottom; y++) {
                for (int i = 0; i < many; i++) {
                    int b = bits.number(8);
                    if (b < 0 || !picture.paintRowByte(y, i, b)) {
                        return false;
                    }
                }
            }
            return bits.atEnd();
        }
    }

    /** The scheme RUNS. Its limit of 128 bytes needs no care in writing: no row has more than 20. */
    private static final class Runs implements Packing {
        private static final int NOTHING = 128;

        private final Bytes file;
        private final BitReader bits;
        private final int[] row;

        private Runs(Bytes bytesOfFile, BitReader bitsOfStrip) {
            file = bytesOfFile;
            bits = bitsOfStrip;
            row = new int[MOST_ROW_BYTES];
        }

        @Override
        public void pack(Picture picture, int top, int bottom) {
            int many = Math.min(picture.rowBytes(), row.length);
            for (int y = top; y < bottom; y++) {
                for (int i = 0; i < many; i++) {
                    row[i] = picture.rowByte(y, i);
                }
                packRow(many);
            }
        }

        private void packRow(int many) {
            int begin = 0;
            for (int step = 0; step < many && begin < many; step++) {
                int end = endOfSame(begin, many);
                if (end - begin > 1) {
                    file.append(257 - (end - begin));
                    file.append(row[begin]);
                } else {
                    end = endOfDifferent(begin, many);
                    file.append(end - begin - 1);
                    for (int i = begin; i < end; i++) {
                        file.append(row[i]);
                    }
                }
                begin = end;
            }
        }

        private int endOfSame(int begin, int many) {
            for (int i = begin + 1; i < many; i++) {
                if (row[i] != row[begin]) {
                    return i;
                }
            }
            return many;
        }

        private int endOfDifferent(int begin, int many) {
            for (int i = begin; i + 1 < many; i++) {
                if (row[i] == row[i + 1]) {
                    return i;
                }
            }
            return many;
        }

        @Override
        public boolean unpack(Picture picture, int top, int bottom) {
            for (int y = top; y < bottom; y++) {
                if (!unpackRow(picture, y)) {
                    return false;
                }
            }
            return bits.atEnd();
        }

        private boolean unpackRow(Picture picture, int y) {
            int many = picture.rowBytes();
            int filled = 0;
            for (int step = 0; step < MOST_FILE_BYTES && filled < many; step++) {
                int head = bits.number(8);
                if (head == NOTHING) {
                    continue;
                }
                int count = head < NOTHING ? head + 1 : 257 - head;
                if (head < 0 || filled + count > many || !unpackRun(picture, y, filled, count, head > NOTHING)) {
                    return false;
                }
                filled += count;
            }
            return filled == many;
        }

        private boolean unpackRun(Picture picture, int y, int from, int count, boolean same) {
            int b = 0;
            for (int i = 0; i < count; i++) {
                if (i == 0 || !same) {
                    b = bits.number(8);
                }
                if (b < 0 || !picture.paintRowByte(y, from + i, b)) {
                    return false;
                }
            }
            return true;
        }
    }

    /** The scheme TABLE. */
    private static final class Table implements Packing {
        private static final int CLEAR = 256;
        private static final int END = 257;
        private static final int FIRST_MADE = 258;
        private static final int MOST_ENTRIES = FIRST_MADE + MOST_STRIP_BYTES;
        private static final int NO_ENTRY = 0;

        private final Bytes file;
        private final BitReader bits;
        private final int[] bytes;
        // In writing an entry is known by the one that lacks its last byte; those of one such are a chain.
        private final int[] longer;
        private final int[] nextLonger;
        private final int[] lastByte;
        // In reading an entry is known by where it stands in the bytes that are there already.
        private final int[] begin;
        private final int[] length;
        private int written;
        private int made;

        private Table(Bytes bytesOfFile, BitReader bitsOfStrip) {
            file = bytesOfFile;
            bits = bitsOfStrip;
            bytes = new int[MOST_STRIP_BYTES];
            longer = new int[MOST_ENTRIES];
            nextLonger = new int[MOST_ENTRIES];
            lastByte = new int[MOST_ENTRIES];
            begin = new int[MOST_ENTRIES];
            length = new int[MOST_ENTRIES];
        }

        private static int bitsOfCode(int nthBehindClear) {
            if (nthBehindClear < 255) {
                return 9;
            }
            return nthBehindClear < 767 ? 10 : 11;
        }

        @Override
        public void pack(Picture picture, int top, int bottom) {
            int many = collect(picture, top, bottom);
            Arrays.fill(longer, NO_ENTRY);
            made = FIRST_MADE;
            written = 0;
            file.appendBits(CLEAR, bitsOfCode(0));
            int entry = bytes[0];
            for (int i = 1; i < many; i++) {
                int match = longerEntry(entry, bytes[i]);
                if (match == NO_ENTRY) {
                    packCode(entry);
                    makeEntry(entry, bytes[i]);
                    match = bytes[i];
                }
                entry = match;
            }
            packCode(entry);
            packCode(END);
            file.endBits();
        }

        private int collect(Picture picture, int top, int bottom) {
            int many = 0;
            for (int y = top; y < bottom; y++) {
                for (int i = 0; i < picture.rowBytes() && many < bytes.length; i++) {
                    bytes[many] = picture.rowByte(y, i);
                    many++;
                }
            }
            return many;
        }

        private void packCode(int code) {
            written++;
            file.appendBits(code, bitsOfCode(written));
        }

        private int longerEntry(int entry, int b) {
            int candidate = longer[entry];
            for (int step = 0; step < MOST_ENTRIES && candidate != NO_ENTRY; step++) {
                if (lastByte[candidate] == b) {
                    return candidate;
                }
                candidate = nextLonger[candidate];
            }
            return NO_ENTRY;
        }

        private void makeEntry(int entry, int b) {
            if (made < MOST_ENTRIES) {
                lastByte[made] = b;
                nextLonger[made] = longer[entry];
                longer[entry] = made;
                made++;
            }
        }

        @Override
        public boolean unpack(Picture picture, int top, int bottom) {
            int many = Math.min(picture.rowBytes() * (bottom - top), bytes.length);
            return bits.number(bitsOfCode(0)) == CLEAR && unpackCodes(many) && bits.onlyFillLeft()
                    && paintRows(picture, top, bottom);
        }

        private boolean unpackCodes(int many) {
            int filled = 0;
            int nth = 1;
            for (int step = 0; step < MOST_FILE_BYTES; step++) {
                int code = bits.number(bitsOfCode(nth));
                if (code == END) {
                    return filled == many;
                }
                if (code == CLEAR) {
                    nth = 1;
                    continue;
                }
                int newest = FIRST_MADE + nth - 2;
                if (code < 0 || code > newest && code > CLEAR || newest >= MOST_ENTRIES) {
                    return false;
                }
                int count = code < CLEAR ? 1 : length[code];
                if (filled + count > many) {
                    return false;
                }
                copyEntry(code, filled, count);
                filled += count;
                // The entry that the next code makes: these bytes, and the one that will stand behind them.
                if (newest + 1 < MOST_ENTRIES) {
                    begin[newest + 1] = filled - count;
                    length[newest + 1] = count + 1;
                }
                nth++;
            }
            return false;
        }

        private void copyEntry(int code, int to, int count) {
            // Upwards, so that an entry's own first byte is there before it is needed as its last one.
            for (int i = 0; i < count; i++) {
                bytes[to + i] = code < CLEAR ? code : bytes[begin[code] + i];
            }
        }

        private boolean paintRows(Picture picture, int top, int bottom) {
            int next = 0;
            for (int y = top; y < bottom; y++) {
                for (int i = 0; i < picture.rowBytes() && next < bytes.length; i++) {
                    if (!picture.paintRowByte(y, i, bytes[next])) {
                        return false;
                    }
                    next++;
                }
            }
            return true;
        }
    }

    /** The schemes G3 and G4. */
    private static final class Fax implements Packing {
        private static final int MARK = 1;
        private static final int MARK_BITS = 12;
        private static final int NO_LINE = -1;

        private final boolean marked;
        private final Lines lines;
        private final Bytes file;
        private final BitReader bits;

        private Fax(boolean marksEachLine, Lines linesOfPicture, Bytes bytesOfFile, BitReader bitsOfStrip) {
            marked = marksEachLine;
            lines = linesOfPicture;
            file = bytesOfFile;
            bits = bitsOfStrip;
        }

        @Override
        public void pack(Picture picture, int top, int bottom) {
            for (int y = top; y < bottom; y++) {
                boolean byItself = marked && (y - top) % 4 == 0;
                if (marked) {
                    file.appendBits(MARK, MARK_BITS);
                    file.appendBits(byItself ? 1 : 0, 1);
                }
                if (byItself) {
                    lines.packByItself(picture, y);
                } else {
                    lines.packByAnother(picture, y, y == top ? NO_LINE : y - 1);
                }
            }
            if (!marked) {
                file.appendBits(MARK, MARK_BITS);
                file.appendBits(MARK, MARK_BITS);
            }
            file.endBits();
        }

        @Override
        public boolean unpack(Picture picture, int top, int bottom) {
            for (int y = top; y < bottom; y++) {
                int byItself = marked ? markedLine() : 0;
                if (byItself < 0 || marked && y == top && byItself == 0) {
                    return false;
                }
                boolean held = byItself == 1 ? lines.unpackByItself(picture, y)
                        : lines.unpackByAnother(picture, y, y == top ? NO_LINE : y - 1);
                if (!held) {
                    return false;
                }
            }
            return (marked || isMark() && isMark()) && bits.onlyFillLeft();
        }

        /** 1 if the line behind the MARK is BY ITSELF, 0 if not; -1 if there is no MARK. */
        private int markedLine() {
            return isMark() ? bits.bit() : -1;
        }

        private boolean isMark() {
            return bits.number(MARK_BITS) == MARK;
        }
    }

    /** Lines as codes: BY ITSELF and BY ANOTHER one. */
    private static final class Lines {
        private final Bytes file;
        private final BitReader bits;
        private final CodeTree whiteRuns;
        private final CodeTree blackRuns;
        private final CodeTree modes;

        private Lines(Bytes bytesOfFile, BitReader bitsOfStrip) {
            file = bytesOfFile;
            bits = bitsOfStrip;
            whiteRuns = new CodeTree(WHITE_RUNS);
            blackRuns = new CodeTree(BLACK_RUNS);
            modes = new CodeTree(MODES);
        }

        private static int runCode(int count, int colour) {
            int run = Math.max(0, Math.min(count, WHITE_RUNS.length - 1));
            return colour == WHITE ? WHITE_RUNS[run] : BLACK_RUNS[run];
        }

        private CodeTree runsOf(int colour) {
            return colour == WHITE ? whiteRuns : blackRuns;
        }

        private void packByItself(Picture picture, int y) {
            int x = 0;
            int colour = WHITE;
            for (int step = 0; step <= picture.width && x < picture.width; step++) {
                int end = picture.firstUnlike(y, x, colour);
                file.appendCode(runCode(end - x, colour));
                x = end;
                colour = 1 - colour;
            }
        }

        private boolean unpackByItself(Picture picture, int y) {
            int x = 0;
            int colour = WHITE;
            // Runs of no pixels may stand anywhere: only the bits of the file bound how many there are.
            for (int step = 0; step < 8 * MOST_FILE_BYTES && x < picture.width; step++) {
                int count = runsOf(colour).next(bits);
                if (count < 0 || x + count > picture.width) {
                    return false;
                }
                paintRun(picture, y, x, x + count, colour);
                x += count;
                colour = 1 - colour;
            }
            return x == picture.width;
        }

        private void packByAnother(Picture picture, int y, int other) {
            int a = -1;
            int colour = WHITE;
            for (int step = 0; step <= picture.width && a < picture.width; step++) {
                int a1 = picture.firstUnlike(y, a + 1, colour);
                int b1 = picture.firstChange(other, a + 1, colour);
                int b2 = picture.firstUnlike(other, b1 + 1, 1 - colour);
                if (b2 < a1) {
                    file.appendCode(MODES[PASS]);
                    a = b2;
                } else if (a1 >= b1 - FARTHEST && a1 <= b1 + FARTHEST) {
                    file.appendCode(MODES[a1 - b1 + FARTHEST]);
                    a = a1;
                    colour = 1 - colour;
                } else {
                    int a2 = picture.firstUnlike(y, a1 + 1, 1 - colour);
                    file.appendCode(MODES[TWO_RUNS]);
                    file.appendCode(runCode(a1 - Math.max(a, 0), colour));
                    file.appendCode(runCode(a2 - a1, 1 - colour));
                    a = a2;
                }
            }
        }

        private boolean unpackByAnother(Picture picture, int y, int other) {
            int a = -1;
            int colour = WHITE;
            for (int step = 0; step <= picture.width && a < picture.width; step++) {
                int mode = modes.next(bits);
                int end;
                if (mode < 0) {
                    return false;
                } else if (mode == TWO_RUNS) {
                    end = unpackTwoRuns(picture, y, Math.max(a, 0), colour);
                } else {
                    end = endOfMode(picture, other, a, colour, mode);
                    paintRun(picture, y, a, end, colour);
                    colour = mode == PASS ? colour : 1 - colour;
                }
                if (end <= a || end > picture.width) {
                    return false;
                }
                a = end;
            }
            return a == picture.width;
        }

        /** Answers where the runs end; -1 if they can't be. */
        private int unpackTwoRuns(Picture picture, int y, int from, int colour) {
            int count = runsOf(colour).next(bits);
            int otherCount = count < 0 ? -1 : runsOf(1 - colour).next(bits);
            if (otherCount < 0 || count + otherCount == 0) {
                return -1;
            }
            paintRun(picture, y, from, from + count, colour);
            paintRun(picture, y, from + count, from + count + otherCount, 1 - colour);
            return from + count + otherCount;
        }

        /** Answers where a mode by the other line leads to; -1 if it can't be. */
        private int endOfMode(Picture picture, int other, int a, int colour, int mode) {
            int b1 = picture.firstChange(other, a + 1, colour);
            if (mode != PASS) {
                return b1 + mode - FARTHEST;
            }
            int b2 = picture.firstUnlike(other, b1 + 1, 1 - colour);
            return b2 < picture.width ? b2 : -1;
        }

        private void paintRun(Picture picture, int y, int from, int to, int colour) {
            for (int x = from; x < to; x++) {
                picture.paint(x, y, colour);
            }
        }
    }

    /** Codes of which none begins with another one, to be told from the bits that come. */
    private static final class CodeTree {
        // The white runs need most, 57.
        private static final int MOST_FORKS = 60;
        private static final int LONGEST = 12;

        // For fork n, 2 n and 2 n + 1: 0 nothing, above 0 the next fork, below 0 a code's end: -1 - its index.
        private final int[] ways;

        private CodeTree(int[] codes) {
            ways = new int[2 * MOST_FORKS];
            int forks = 1;
            for (int i = 0; i < codes.length; i++) {
                int fork = 0;
                for (int k = lengthOf(codes[i]) - 1; k >= 0; k--) {
                    int way = 2 * fork + (codes[i] >> k & 1);
                    if (k == 0) {
                        ways[way] = -1 - i;
                    } else if (ways[way] == 0 && forks < MOST_FORKS) {
                        ways[way] = forks;
                        forks++;
                    }
                    fork = Math.max(ways[way], 0);
                }
            }
        }

        /** The index of the code that comes; -1 if none does. */
        private int next(BitReader bits) {
            int fork = 0;
            for (int i = 0; i < LONGEST; i++) {
                int bit = bits.bit();
                int way = bit < 0 ? 0 : ways[2 * fork + bit];
                if (way <= 0) {
                    return way < 0 ? -1 - way : -1;
                }
                fork = way;
            }
            return -1;
        }
    }
}
