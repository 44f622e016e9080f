import java.lang.reflect.Constructor;
import java.lang.reflect.Field;
import java.lang.reflect.Method;
import java.math.BigInteger;
import java.util.Random;

/** The fraction's own arithmetic against BigInteger, with zeros where no run of calls soon brings them. */
public final class LongNumbersTest {
    private static int wrong = 0;

    private static Class<?> inside(String name) throws ReflectiveOperationException {
        return Class.forName("TankNumbers$" + name);
    }

    private static Object make(String name) throws ReflectiveOperationException {
        Constructor<?> c = inside(name).getDeclaredConstructor();
        c.setAccessible(true);
        return c.newInstance();
    }

    private static Field field(String name, String of) throws ReflectiveOperationException {
        Field f = inside(of).getDeclaredField(name);
        f.setAccessible(true);
        return f;
    }

    private static Object natural(BigInteger value) throws ReflectiveOperationException {
        Object n = make("Natural");
        int[] limbs = (int[]) field("limbs", "Natural").get(n);
        int size = 0;
        for (BigInteger rest = value; rest.signum() > 0; rest = rest.shiftRight(30)) {
            limbs[size] = rest.intValue() & 0x3fffffff;
            size++;
        }
        field("size", "Natural").setInt(n, size);
        return n;
    }

    private static BigInteger value(Object natural) throws ReflectiveOperationException {
        int[] limbs = (int[]) field("limbs", "Natural").get(natural);
        BigInteger v = BigInteger.ZERO;
        for (int i = field("size", "Natural").getInt(natural) - 1; i >= 0; i--) {
            v = v.shiftLeft(30).add(BigInteger.valueOf(limbs[i]));
        }
        return v;
    }

    private static void due(String what, Object got, Object want) {
        if (!got.equals(want)) {
            wrong++;
            System.out.println(what + ": " + got + ", due is " + want);
        }
    }

    private static void lowered(BigInteger a, BigInteger b) throws ReflectiveOperationException {
        Object f = make("Fraction");
        Method become = inside("Fraction").getDeclaredMethod("become", inside("Natural"), inside("Natural"));
        become.setAccessible(true);
        become.invoke(f, natural(a), natural(b));
        BigInteger g = a.gcd(b);
        due("above of " + a + " by " + b, value(field("above", "Fraction").get(f)), a.divide(g));
        due("below of " + a + " by " + b, value(field("below", "Fraction").get(f)), b.divide(g));
    }

    private static void dropped(BigInteger a, int bits) throws ReflectiveOperationException {
        Object n = natural(a);
        Method drop = inside("Natural").getDeclaredMethod("dropBits", int.class);
        drop.setAccessible(true);
        drop.invoke(n, bits);
        due(a + " less " + bits + " bits", value(n), a.shiftRight(bits));
    }

    public static void main(String[] args) throws ReflectiveOperationException {
        Random random = new Random(5);
        for (int i = 0; i < 400; i++) {
            BigInteger shared = new BigInteger(random.nextInt(500), random).setBit(0).shiftLeft(random.nextInt(130));
            BigInteger a = new BigInteger(random.nextInt(600), random).shiftLeft(random.nextInt(200));
            BigInteger b = new BigInteger(random.nextInt(600), random).setBit(random.nextInt(200));
            lowered(a.multiply(shared), b.multiply(shared));
            lowered(b.multiply(shared), shared);
            dropped(a, random.nextInt(900));
        }
        lowered(BigInteger.ZERO, BigInteger.TEN);
        BigInteger top = BigInteger.ONE.shiftLeft(64 * 30).subtract(BigInteger.ONE);
        lowered(top, top);
        lowered(BigInteger.ONE, top);
        lowered(BigInteger.ONE.shiftLeft(64 * 30 - 1), BigInteger.ONE.shiftLeft(64 * 30 - 31));
        System.out.println(wrong == 0 ? "all answers are as due" : wrong + " answers are not as due");
        if (wrong != 0) {
            System.exit(1);
        }
    }
}
