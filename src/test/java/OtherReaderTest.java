import java.awt.image.BufferedImage;
import java.io.ByteArrayInputStream;
import java.io.IOException;
import java.util.Iterator;
import java.util.Random;
import javax.imageio.ImageIO;
import javax.imageio.ImageReader;
import javax.imageio.stream.ImageInputStream;

/** Promise 6 seen by somebody else: the Java library's own reader of such files finds the picture that was written. */
public final class OtherReaderTest {
    private static final Check CHECK = new Check();
    private static final String GIVEN_UP = "given up";

    public static void main(String[] args) throws IOException {
        try {
            compare();
        } catch (LinkageError e) {
            System.out.println("skipped: the Java library's pictures do not work on this machine: " + e);
            return;
        }
        CHECK.end();
    }

    private static void compare() throws IOException {
        ImageIO.setUseCache(false);
        Random random = new Random(7);
        int givenUp = 0;
        for (int i = 0; i < 400; i++) {
            boolean longCodes = i < 5;
            FaxPages pages = longCodes ? RandomPages.noise(random) : RandomPages.picture(random);
            int height = pages.info(1);
            int scheme = longCodes ? 5 : RandomPages.scheme(random, pages.info(2) == 1);
            int rows = longCodes ? height : 1 + random.nextInt(height);
            pages.write(scheme, random.nextBoolean(), rows);
            String what = "scheme " + scheme + ", " + rows + " rows of a strip";
            String seen = seenByOther(Pages.bytes(pages), pages.info(2) == 1);
            if (seen.equals(GIVEN_UP)) {
                givenUp++;
            } else {
                CHECK.same(what, seen, Pages.shown(pages));
            }
        }
        CHECK.isTrue("few are given up, not " + givenUp, givenUp < 40);
    }

    private static String seenByOther(byte[] file, boolean gray) throws IOException {
        Iterator<ImageReader> readers = ImageIO.getImageReadersByFormatName("tiff");
        ImageReader reader = readers.next();
        try (ImageInputStream in = ImageIO.createImageInputStream(new ByteArrayInputStream(file))) {
            reader.setInput(in);
            BufferedImage image = reader.read(0);
            StringBuilder text = new StringBuilder();
            for (int y = 0; y < image.getHeight(); y++) {
                for (int x = 0; x < image.getWidth(); x++) {
                    boolean black = (image.getRGB(x, y) & 0xffffff) == 0;
                    text.append(gray ? image.getRaster().getSample(x, y, 0) + " " : black ? "#" : ".");
                }
                text.append('\n');
            }
            return text.toString();
        } catch (ArrayIndexOutOfBoundsException e) {
            // That reader's fault: its list of changes is too short for a narrow line that changes at each pixel.
            return GIVEN_UP;
        } finally {
            reader.dispose();
        }
    }
}
