import java.lang.reflect.Method;
import java.util.Random;

/**
 * Promises 13 and 15 answer bits of doubles, which the class counts out by itself. Its own function is asked
 * here, for numbers that no cloud of the other tests brings: below 0.0, very small, very great.
 */
public final class BitsTest {
    private static final Check CHECK = new Check("BitsTest");

    private static void same(Method bitsOf, double x) throws ReflectiveOperationException {
        long got = (Long) bitsOf.invoke(null, x);
        CHECK.due("bits of " + x, got, Double.doubleToRawLongBits(x));
    }

    private static void bothSigns(Method bitsOf, double x) throws ReflectiveOperationException {
        same(bitsOf, x);
        same(bitsOf, -x);
    }

    public static void main(String[] args) throws ReflectiveOperationException {
        Method bitsOf = DartRoom.class.getDeclaredMethod("bitsOf", double.class);
        bitsOf.setAccessible(true);
        same(bitsOf, 0.0);
        double[] edges = {
            1.0, 2.0, 0.5, Math.nextUp(1.0), Math.nextDown(1.0), Math.nextDown(2.0), 3.0, 5000.0, 1.0 / 3.0,
            Double.MIN_VALUE, Math.nextDown(Double.MIN_NORMAL), Double.MIN_NORMAL, Math.nextUp(Double.MIN_NORMAL),
            2 * Double.MIN_NORMAL, Double.MAX_VALUE, Double.MAX_VALUE / 2, Math.nextDown(Double.MAX_VALUE / 2)
        };
        for (double x : edges) {
            bothSigns(bitsOf, x);
        }
        Random random = new Random(5);
        for (int i = 0; i < 20_000; i++) {
            bothSigns(bitsOf, random.nextDouble());
            bothSigns(bitsOf, 1.0 + 5000.0 * random.nextDouble());
            double any = Double.longBitsToDouble(random.nextLong());
            if (any == any && any - any == 0.0 && any != 0.0) {
                bothSigns(bitsOf, any);
            }
        }
        CHECK.end();
    }
}
