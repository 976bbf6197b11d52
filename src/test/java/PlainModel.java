import java.math.BigInteger;

/** What the document says, written as plainly as the Java library lets it be: the model that runs are held against. */
final class PlainModel {
    private static final BigInteger[] LENGTHS = {
        BigInteger.valueOf(3), BigInteger.valueOf(300), BigInteger.valueOf(300_000),
        BigInteger.valueOf(25_4 * 30), BigInteger.valueOf(12 * 25_4 * 30), BigInteger.valueOf(25_4 * 30 / 12),
    };

    final BigInteger[] tops = new BigInteger[150];
    final BigInteger[] bottoms = new BigInteger[150];
    int put;
    final int[][] ends = new int[40][2];
    int roots;
    final long[] weights = new long[32];
    int told;

    PlainModel() {
        for (int i = 0; i < 150; i++) {
            tops[i] = BigInteger.ZERO;
            bottoms[i] = BigInteger.ONE;
        }
    }

    private void needValue(int a) {
        need(a, 150);
    }

    private static void need(int number, int many) {
        if (number < 0 || number >= many) {
            throw new ArrayIndexOutOfBoundsException();
        }
    }

    private int make(BigInteger top, BigInteger bottom) {
        BigInteger common = top.gcd(bottom);
        if (bottom.signum() < 0) {
            common = common.negate();
        }
        BigInteger t = top.divide(common);
        BigInteger b = bottom.divide(common);
        if (put == 150 || t.abs().bitLength() > 800 || b.bitLength() > 800) {
            return -1;
        }
        tops[put] = t;
        bottoms[put] = b;
        return put++;
    }

    int value(long above, long below) {
        if (below == 0) {
            throw new ArithmeticException();
        }
        return make(BigInteger.valueOf(above), BigInteger.valueOf(below));
    }

    int add(int a, int b) {
        needValue(a);
        needValue(b);
        return make(tops[a].multiply(bottoms[b]).add(tops[b].multiply(bottoms[a])), bottoms[a].multiply(bottoms[b]));
    }

    int times(int a, int b) {
        needValue(a);
        needValue(b);
        return make(tops[a].multiply(tops[b]), bottoms[a].multiply(bottoms[b]));
    }

    int over(int a, int b) {
        needValue(a);
        needValue(b);
        if (tops[b].signum() == 0) {
            throw new ArithmeticException();
        }
        return make(tops[a].multiply(bottoms[b]), bottoms[a].multiply(tops[b]));
    }

    int order(int a, int b) {
        needValue(a);
        needValue(b);
        return tops[a].multiply(bottoms[b]).compareTo(tops[b].multiply(bottoms[a]));
    }

    int root(int a, int bits) {
        needValue(a);
        if (tops[a].signum() < 0 || bits < 0 || bits > 200) {
            throw new IllegalArgumentException();
        }
        if (roots == 40 || put > 148) {
            return -1;
        }
        BigInteger lifted = tops[a].shiftLeft(2 * bits);
        BigInteger s = lifted.divide(bottoms[a]).sqrt();
        boolean exact = s.multiply(s).multiply(bottoms[a]).equals(lifted);
        BigInteger power = BigInteger.ONE.shiftLeft(bits);
        ends[roots][0] = make(s, power);
        ends[roots][1] = make(exact ? s : s.add(BigInteger.ONE), power);
        return roots++;
    }

    int end(int root, int which) {
        need(root, 40);
        need(which, 2);
        return ends[root][which];
    }

    int round(int a, int rule, long unit) {
        needValue(a);
        if (rule < 0 || rule > 3 || unit < 1) {
            throw new IllegalArgumentException();
        }
        BigInteger by = bottoms[a].multiply(BigInteger.valueOf(unit));
        BigInteger below = floor(tops[a], by);
        BigInteger above = floor(tops[a].negate(), by).negate();
        // The distance of a from the times below it, less that from those above it.
        int nearer = tops[a].subtract(below.multiply(by)).compareTo(above.multiply(by).subtract(tops[a]));
        BigInteger times = switch (rule) {
            case 0 -> below;
            case 1 -> above;
            case 2 -> nearer < 0 ? below : above;
            default -> nearer < 0 || nearer == 0 && !below.testBit(0) ? below : above;
        };
        return make(times.multiply(BigInteger.valueOf(unit)), BigInteger.ONE);
    }

    private static BigInteger floor(BigInteger top, BigInteger bottom) {
        BigInteger[] parts = top.divideAndRemainder(bottom);
        return parts[1].signum() < 0 ? parts[0].subtract(BigInteger.ONE) : parts[0];
    }

    int turn(int a, int from, int to) {
        needValue(a);
        need(from, 6);
        need(to, 6);
        return make(tops[a].multiply(LENGTHS[from]), bottoms[a].multiply(LENGTHS[to]));
    }

    boolean weight(long w) {
        if (told == 32 || w < 0 || w > 1_000_000_000) {
            return false;
        }
        weights[told++] = w;
        return true;
    }

    void clearWeights() {
        java.util.Arrays.fill(weights, 0);
        told = 0;
    }

    long share(long whole, int k) {
        need(k, 32);
        if (whole < 0 || whole > 1_000_000_000) {
            throw new IllegalArgumentException();
        }
        long all = 0;
        for (long w : weights) {
            all += w;
        }
        if (all == 0) {
            throw new ArithmeticException();
        }
        long[] shares = new long[32];
        long[] rests = new long[32];
        long left = whole;
        for (int i = 0; i < 32; i++) {
            shares[i] = whole * weights[i] / all;
            rests[i] = whole * weights[i] % all;
            left -= shares[i];
        }
        for (; left > 0; left--) {
            int next = 0;
            for (int i = 1; i < 32; i++) {
                if (rests[i] > rests[next]) {
                    next = i;
                }
            }
            shares[next]++;
            rests[next] = -1;
        }
        return shares[k];
    }

    int digit(int a, int part, int i) {
        needValue(a);
        if (part != 0 && part != 1) {
            throw new IllegalArgumentException();
        }
        String digits = (part == 0 ? tops[a].abs() : bottoms[a]).toString();
        need(i, digits.length());
        return digits.charAt(i) - '0';
    }

    int bits(int a) {
        needValue(a);
        return tops[a].signum() == 0 ? 0 : tops[a].abs().bitLength() + bottoms[a].bitLength();
    }

    int sign(int a) {
        needValue(a);
        return tops[a].signum();
    }
}
