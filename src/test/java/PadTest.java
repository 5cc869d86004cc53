import java.math.BigInteger;

/** Terms: the pad of a key, a number and a place, as it stands in tags and over the 51 bytes. */
public final class PadTest {
    private static final Check check = new Check();
    private static final BigInteger ALL = BigInteger.ONE.shiftLeft(64);
    private static final long[] KEYS = {1, 2, 255, 256, 1L << 31, 1L << 32, 1L << 33, 1L << 62, Long.MAX_VALUE - 3,
        Long.MIN_VALUE, Long.MIN_VALUE + 1, -1000, -4, 0x8000000080000000L, 0x7FFFFFFF7FFFFFFFL, 0x0123456789ABCDEFL,
        0xFEDCBA9876543210L, 7046029254386353131L, -7046029254386353131L, -2862933555777941757L * 100};

    public static void main(String[] args) {
        padWrapsAt64Bits();
        tagIsThePadOfPlace100();
        bytesAreUnderThePadsOfPlaces0To6();
        highestByteOfThePadIsByte0();
        check.end();
    }

    /** The pad by numbers without a bound, cut to 64 bits behind each step. */
    private static long wide(long key, long n, long j) {
        BigInteger x = unsigned(key).add(new BigInteger("7046029254386353131").multiply(unsigned(n)))
            .add(new BigInteger("2862933555777941757").multiply(unsigned(j))).mod(ALL);
        x = x.xor(x.shiftRight(29)).multiply(new BigInteger("4768777513237032717")).mod(ALL);
        return x.xor(x.shiftRight(32)).longValue();
    }

    private static BigInteger unsigned(long value) {
        return BigInteger.valueOf(value).mod(ALL);
    }

    private static void padWrapsAt64Bits() {
        check.sentence("the pad: all of 64 bits, wrapping (the tests' own pad)");
        for (long key : KEYS) {
            for (int n = 1; n <= 600; n += 37) {
                check.due("pad of " + key + ", " + n + ", 100", Kit.pad(key, n, 100), wide(key, n, 100));
                check.due("pad of " + key + ", " + n + ", 6", Kit.pad(key, n, 6), wide(key, n, 6));
            }
        }
    }

    private static void tagIsThePadOfPlace100() {
        check.sentence("5 to 12 its TAG: the pad of its key, its writing, and 100; all of 64 bits, wrapping");
        for (long key : KEYS) {
            Subject s = new Subject();
            Kit.put(s, 0, 1, 4, key);
            for (int page = 0; page < 4; page++) {
                long tag = wide(key + page, page + 1, 100);
                for (int i = 0; i < 8; i++) {
                    check.due("key " + key + ", disk(" + (64 * page + 5 + i) + ")", s.disk(64 * page + 5 + i),
                        tag >>> (56 - 8 * i) & 255);
                }
            }
        }
    }

    private static void bytesAreUnderThePadsOfPlaces0To6() {
        check.sentence("byte i of which is xor-ed with byte i modulo 8 of the pad of key, writing and i / 8");
        for (long key : KEYS) {
            Subject s = new Subject();
            Kit.put(s, 21, 77, 48, key);
            int[] data = Kit.data(Kit.LAST, 48, 77);
            int[] root = Kit.nodeWith(1, key + 2, 2);
            for (int i = 0; i < 51; i++) {
                check.due("key " + key + ", data, byte " + i, s.disk(13 + i), data[i] ^ wideByte(key, 1, i));
                if (!Kit.isOpen(root, i)) {
                    check.due("key " + key + ", root, byte " + i, s.disk(3 * 64 + 13 + i),
                        root[i] ^ wideByte(key + 3, 4, i));
                }
            }
        }
    }

    private static int wideByte(long key, long writing, int i) {
        return (int) (wide(key, writing, i / 8) >>> (56 - 8 * (i % 8)) & 255);
    }

    private static void highestByteOfThePadIsByte0() {
        check.sentence("(the highest is 0)");
        Subject s = new Subject();
        Kit.put(s, 0, 1, 0, 11);
        // an empty object's page has 0 from its third byte on, so the pad itself stands there
        check.due("disk(13 + 8)", s.disk(13 + 8), wide(11, 1, 1) >>> 56 & 255);
        check.due("disk(13 + 15)", s.disk(13 + 15), wide(11, 1, 1) & 255);
        check.due("disk(13 + 48)", s.disk(13 + 48), wide(11, 1, 6) >>> 56 & 255);
        check.due("disk(13 + 50)", s.disk(13 + 50), wide(11, 1, 6) >>> 40 & 255);
    }
}
