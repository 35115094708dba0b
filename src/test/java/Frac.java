import java.math.BigInteger;

/** An exact number, in lowest terms. */
record Frac(BigInteger upper, BigInteger lower) implements Comparable<Frac> {
    Frac {
        BigInteger common = upper.gcd(lower);
        upper = upper.divide(common);
        lower = lower.divide(common);
    }

    static Frac of(long upper, long lower) {
        return new Frac(BigInteger.valueOf(upper), BigInteger.valueOf(lower));
    }

    static Frac of(long whole) {
        return of(whole, 1);
    }

    Frac plus(Frac other) {
        return new Frac(upper.multiply(other.lower).add(other.upper.multiply(lower)), lower.multiply(other.lower));
    }

    Frac times(Frac other) {
        return new Frac(upper.multiply(other.upper), lower.multiply(other.lower));
    }

    boolean atLeast(Frac other) {
        return compareTo(other) >= 0;
    }

    long floor() {
        return upper.divide(lower).longValueExact();
    }

    long told(boolean wantsLower) {
        return (wantsLower ? lower : upper).longValueExact();
    }

    @Override
    public int compareTo(Frac other) {
        return upper.multiply(other.lower).compareTo(other.upper.multiply(lower));
    }
}
