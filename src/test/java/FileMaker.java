import java.util.ArrayList;
import java.util.List;
import java.util.TreeMap;

/** Makes files by the document, but in any way that its readers must bear, and wrong ones. */
final class FileMaker {
    static final int SHORT = 3;
    static final int LONG = 4;

    private static final class Tag {
        private final int type;
        private final long[] values;
        private long count;

        private Tag(int type, long... values) {
            this.type = type;
            this.values = values;
            this.count = values.length;
        }
    }

    private final boolean motorola;
    private final TreeMap<Integer, Tag> tags = new TreeMap<>();
    private final List<int[]> strips = new ArrayList<>();
    private final List<Integer> bytes = new ArrayList<>();
    private final List<Integer> missing = new ArrayList<>();
    private long behind;
    private int stripPlacesType = LONG;
    private int stripSizesType = LONG;
    private int gap;

    FileMaker(boolean motorola, int scheme, boolean gray, int width, int height, int rows) {
        this.motorola = motorola;
        tag(256, SHORT, width);
        tag(257, SHORT, height);
        tag(258, SHORT, gray ? 8 : 1);
        tag(259, SHORT, scheme);
        tag(262, SHORT, gray ? 1 : 0);
        tag(278, SHORT, rows);
        if (scheme == 3) {
            tag(292, LONG, 1);
        }
    }

    /** A file of one strip. */
    static FileMaker one(int scheme, int width, int height, String bits) {
        return new FileMaker(false, scheme, false, width, height, height).strip(bits);
    }

    FileMaker tag(int number, int type, long... values) {
        tags.put(number, new Tag(type, values));
        return this;
    }

    FileMaker count(int number, long count) {
        tags.get(number).count = count;
        return this;
    }

    FileMaker without(int number) {
        missing.add(number);
        return this;
    }

    FileMaker strip(int... data) {
        strips.add(data);
        return this;
    }

    FileMaker strip(String bits) {
        return strip(Pages.packed(bits));
    }

    FileMaker behind(long value) {
        behind = value;
        return this;
    }

    FileMaker stripTypes(int places, int sizes) {
        stripPlacesType = places;
        stripSizesType = sizes;
        return this;
    }

    /** Bytes that belong to nothing, before the strips, so that the places are other ones. */
    FileMaker gap(int many) {
        gap = many;
        return this;
    }

    /** As the file of a new object. */
    FaxPages made() {
        return into(new FaxPages());
    }

    /** As the file of an object, whatever that has had before. */
    FaxPages into(FaxPages pages) {
        makeBytes();
        pages.cut(0);
        bytes.forEach(pages::add);
        return pages;
    }

    /** Strips, then the tags, then the values that do not fit into them. */
    private void makeBytes() {
        bytes.clear();
        bytes.add(motorola ? 77 : 73);
        bytes.add(motorola ? 77 : 73);
        number(2, 42);
        number(4, 0);
        for (int i = 0; i < gap; i++) {
            bytes.add(170);
        }
        placeStrips();
        missing.forEach(tags::remove);
        setNumber(4, 4, bytes.size());
        number(2, tags.size());
        int far = bytes.size() + 12 * tags.size() + 4;
        List<Tag> farTags = new ArrayList<>();
        for (int number : tags.keySet()) {
            Tag tag = tags.get(number);
            int size = tag.type == LONG ? 4 : 2;
            number(2, number);
            number(2, tag.type);
            number(4, tag.count);
            if (size * tag.values.length > 4) {
                number(4, far);
                far += size * tag.values.length;
                farTags.add(tag);
            } else {
                int begin = bytes.size();
                values(tag);
                while (bytes.size() < begin + 4) {
                    bytes.add(0);
                }
            }
        }
        number(4, behind);
        farTags.forEach(this::values);
    }

    private void placeStrips() {
        long[] places = new long[strips.size()];
        long[] sizes = new long[strips.size()];
        for (int i = 0; i < places.length; i++) {
            places[i] = bytes.size();
            sizes[i] = strips.get(i).length;
            for (int b : strips.get(i)) {
                bytes.add(b);
            }
        }
        tags.putIfAbsent(273, new Tag(stripPlacesType, places));
        tags.putIfAbsent(279, new Tag(stripSizesType, sizes));
    }

    private void values(Tag tag) {
        for (long value : tag.values) {
            number(tag.type == LONG ? 4 : 2, value);
        }
    }

    private void number(int size, long value) {
        for (int i = 0; i < size; i++) {
            bytes.add(0);
        }
        setNumber(bytes.size() - size, size, value);
    }

    private void setNumber(int place, int size, long value) {
        for (int i = 0; i < size; i++) {
            int shift = 8 * (motorola ? size - 1 - i : i);
            bytes.set(place + i, (int) (value >> shift & 255));
        }
    }
}
