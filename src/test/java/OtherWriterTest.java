import java.awt.image.BufferedImage;
import java.awt.image.IndexColorModel;
import java.io.ByteArrayInputStream;
import java.io.ByteArrayOutputStream;
import java.io.IOException;
import java.util.Random;
import java.util.stream.Collectors;
import java.util.stream.IntStream;
import javax.imageio.IIOImage;
import javax.imageio.ImageIO;
import javax.imageio.ImageReader;
import javax.imageio.ImageTypeSpecifier;
import javax.imageio.ImageWriteParam;
import javax.imageio.ImageWriter;
import javax.imageio.metadata.IIOMetadata;
import javax.imageio.metadata.IIOMetadataNode;
import javax.imageio.plugins.tiff.BaselineTIFFTagSet;
import javax.imageio.plugins.tiff.TIFFDirectory;
import javax.imageio.plugins.tiff.TIFFField;
import javax.imageio.stream.ImageInputStream;
import javax.imageio.stream.ImageOutputStream;
import javax.imageio.stream.MemoryCacheImageOutputStream;

/** Promise 7, "whoever wrote it": files of the Java library's own writer are read as the picture that it was given. */
public final class OtherWriterTest {
    private static final Check CHECK = new Check();

    public static void main(String[] args) throws IOException {
        try {
            compare();
        } catch (LinkageError e) {
            System.out.println("skipped: the Java library's pictures do not work on this machine: " + e);
            return;
        }
        CHECK.end();
    }

    private static void compare() throws IOException {
        ImageIO.setUseCache(false);
        Random random = new Random(8);
        for (int i = 0; i < 400; i++) {
            boolean longCodes = i < 5;
            FaxPages due = longCodes ? RandomPages.noise(random) : RandomPages.picture(random);
            int height = due.info(1);
            int scheme = longCodes ? 5 : RandomPages.scheme(random, due.info(2) == 1);
            int rows = longCodes ? height : 1 + random.nextInt(height);
            compareFile(due, scheme, random.nextBoolean(), rows);
        }
    }

    private static void compareFile(FaxPages due, int scheme, boolean motorola, int rows) throws IOException {
        String what = "scheme " + scheme + ", " + rows + " rows of a strip";
        FaxPages pages = Pages.withPast();
        pages.cut(0);
        for (byte b : writtenByOther(imageOf(due), scheme, motorola, rows)) {
            pages.add(b & 255);
        }
        if (scheme == 3) {
            CHECK.readRefuses(what + ", MARKS behind the lines", pages, FaxPages.DATA);
            pages = withoutMarksBehind(pages, motorola);
        }
        CHECK.same(what, pages.read(), (due.info(1) + rows - 1) / rows);
        CHECK.same(what, Pages.shown(pages), Pages.shown(due));
        CHECK.same(what + ": info(3)", pages.info(3), scheme);
        CHECK.same(what + ": info(4)", pages.info(4), motorola ? 1 : 0);
        CHECK.same(what + ": info(5)", pages.info(5), rows);
    }

    private static BufferedImage imageOf(FaxPages pages) {
        byte[] whiteThenBlack = {(byte) 255, 0};
        int width = pages.info(0);
        int height = pages.info(1);
        BufferedImage image = pages.info(2) == 1 ? new BufferedImage(width, height, BufferedImage.TYPE_BYTE_GRAY)
            : new BufferedImage(width, height, BufferedImage.TYPE_BYTE_BINARY,
                new IndexColorModel(1, 2, whiteThenBlack, whiteThenBlack, whiteThenBlack));
        for (int y = 0; y < height; y++) {
            for (int x = 0; x < width; x++) {
                image.getRaster().setSample(x, y, 0, pages.get(x, y));
            }
        }
        return image;
    }

    private static byte[] writtenByOther(BufferedImage image, int scheme, boolean motorola, int rows)
            throws IOException {
        ImageWriter writer = ImageIO.getImageWritersByFormatName("tiff").next();
        ByteArrayOutputStream bytes = new ByteArrayOutputStream();
        try (ImageOutputStream out = new MemoryCacheImageOutputStream(bytes)) {
            writer.setOutput(out);
            ImageWriteParam param = writer.getDefaultWriteParam();
            if (scheme != 1) {
                param.setCompressionMode(ImageWriteParam.MODE_EXPLICIT);
                param.setCompressionType(nameOf(scheme));
            }
            TIFFDirectory tags = TIFFDirectory.createFromMetadata(
                writer.getDefaultImageMetadata(new ImageTypeSpecifier(image), param));
            BaselineTIFFTagSet known = BaselineTIFFTagSet.getInstance();
            // That writer leaves 258 out if it is 1.
            tags.addTIFFField(new TIFFField(known.getTag(258), image.getSampleModel().getSampleSize(0)));
            tags.addTIFFField(new TIFFField(known.getTag(278), rows));
            writer.write(inOrder(writer, motorola), new IIOImage(image, null, tags.getAsMetadata()), param);
        } finally {
            writer.dispose();
        }
        return bytes.toByteArray();
    }

    private static IIOMetadata inOrder(ImageWriter writer, boolean motorola) throws IOException {
        IIOMetadata order = writer.getDefaultStreamMetadata(null);
        IIOMetadataNode value = new IIOMetadataNode("ByteOrder");
        value.setAttribute("value", motorola ? "BIG_ENDIAN" : "LITTLE_ENDIAN");
        IIOMetadataNode root = new IIOMetadataNode(order.getNativeMetadataFormatName());
        root.appendChild(value);
        order.setFromTree(order.getNativeMetadataFormatName(), root);
        return order;
    }

    private static String nameOf(int scheme) {
        switch (scheme) {
            case 3:
                return "CCITT T.4";
            case 4:
                return "CCITT T.6";
            case 5:
                return "LZW";
            default:
                return "PackBits";
        }
    }

    /** That writer ends each strip of G3 by six MARKS, each with a 1: the same file without them. */
    private static FaxPages withoutMarksBehind(FaxPages pages, boolean motorola) throws IOException {
        FileMaker file = new FileMaker(motorola, 3, false, 1, 1, 1);
        TIFFDirectory tags = tagsOf(pages);
        for (int number : new int[] {256, 257, 278}) {
            file.tag(number, FileMaker.SHORT, tags.getTIFFField(number).getAsInt(0));
        }
        for (int i = 0; i < tags.getTIFFField(273).getCount(); i++) {
            int place = tags.getTIFFField(273).getAsInt(i);
            int size = tags.getTIFFField(279).getAsInt(i);
            String bits = IntStream.range(place, place + size).mapToObj(k -> Pages.codes(8, pages.at(k)))
                .collect(Collectors.joining());
            file.strip(bits.replaceFirst("(0{11}11){6}0*$", ""));
        }
        return file.into(Pages.withPast());
    }

    private static TIFFDirectory tagsOf(FaxPages pages) throws IOException {
        ImageReader reader = ImageIO.getImageReadersByFormatName("tiff").next();
        try (ImageInputStream in = ImageIO.createImageInputStream(new ByteArrayInputStream(Pages.bytes(pages)))) {
            reader.setInput(in);
            return TIFFDirectory.createFromMetadata(reader.getImageMetadata(0));
        } finally {
            reader.dispose();
        }
    }
}
