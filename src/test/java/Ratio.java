import java.math.BigInteger;

/** An exact fraction in lowest terms, its lower number above 0. */
final class Ratio implements Comparable<Ratio> {
    static final Ratio ZERO = of(0, 1);

    final BigInteger upper;
    final BigInteger lower;

    private Ratio(BigInteger upper, BigInteger lower) {
        BigInteger common = upper.gcd(lower);
        if (lower.signum() < 0) {
            common = common.negate();
        }
        this.upper = upper.divide(common);
        this.lower = lower.divide(common);
    }

    static Ratio of(long upper, long lower) {
        return new Ratio(BigInteger.valueOf(upper), BigInteger.valueOf(lower));
    }

    static Ratio of(long whole) {
        return of(whole, 1);
    }

    Ratio plus(Ratio r) {
        return new Ratio(upper.multiply(r.lower).add(r.upper.multiply(lower)), lower.multiply(r.lower));
    }

    Ratio less(Ratio r) {
        return plus(r.times(of(-1)));
    }

    Ratio times(Ratio r) {
        return new Ratio(upper.multiply(r.upper), lower.multiply(r.lower));
    }

    Ratio by(Ratio r) {
        return new Ratio(upper.multiply(r.lower), lower.multiply(r.upper));
    }

    Ratio size() {
        return new Ratio(upper.abs(), lower);
    }

    /** The least whole number that is not below it. */
    long up() {
        BigInteger[] parts = upper.divideAndRemainder(lower);
        return parts[0].longValueExact() + (parts[1].signum() > 0 ? 1 : 0);
    }

    long part(int what) {
        return (what == 0 ? upper : lower).longValueExact();
    }

    @Override
    public int compareTo(Ratio r) {
        return upper.multiply(r.lower).compareTo(r.upper.multiply(lower));
    }
}
