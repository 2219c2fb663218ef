import java.math.BigInteger;

/** A fraction in least terms, of any size. */
record Ratio(BigInteger upper, BigInteger lower) implements Comparable<Ratio> {
    static final Ratio ZERO = of(0, 1);
    static final Ratio ONE = of(1, 1);

    Ratio {
        BigInteger divisor = upper.gcd(lower);
        upper = upper.divide(divisor);
        lower = lower.divide(divisor);
    }

    static Ratio of(long upper, long lower) {
        return new Ratio(BigInteger.valueOf(upper), BigInteger.valueOf(lower));
    }

    Ratio plus(Ratio other) {
        return new Ratio(upper.multiply(other.lower).add(other.upper.multiply(lower)), lower.multiply(other.lower));
    }

    Ratio times(Ratio other) {
        return new Ratio(upper.multiply(other.upper), lower.multiply(other.lower));
    }

    Ratio times(long factor) {
        return times(of(factor, 1));
    }

    Ratio by(Ratio other) {
        return new Ratio(upper.multiply(other.lower), lower.multiply(other.upper));
    }

    boolean isZero() {
        return upper.signum() == 0;
    }

    long part(int what) {
        return (what == 0 ? upper : lower).longValueExact();
    }

    @Override
    public int compareTo(Ratio other) {
        return upper.multiply(other.lower).compareTo(other.upper.multiply(lower));
    }
}
