import java.math.BigInteger;

/** A fraction in lowest terms, of any size. */
final class Frac implements Comparable<Frac> {
    static final Frac ZERO = of(0);

    final BigInteger above, below;

    private Frac(BigInteger above, BigInteger below) {
        BigInteger divisor = above.gcd(below);
        if (below.signum() < 0) divisor = divisor.negate();
        this.above = above.divide(divisor);
        this.below = below.divide(divisor);
    }

    static Frac of(long whole) {
        return of(whole, 1);
    }

    static Frac of(long above, long below) {
        return new Frac(BigInteger.valueOf(above), BigInteger.valueOf(below));
    }

    Frac plus(Frac other) {
        return new Frac(above.multiply(other.below).add(other.above.multiply(below)), below.multiply(other.below));
    }

    Frac minus(Frac other) {
        return plus(other.times(-1));
    }

    Frac times(long whole) {
        return times(of(whole));
    }

    Frac times(Frac other) {
        return new Frac(above.multiply(other.above), below.multiply(other.below));
    }

    Frac by(Frac other) {
        return new Frac(above.multiply(other.below), below.multiply(other.above));
    }

    Frac abs() {
        return new Frac(above.abs(), below);
    }

    int signum() {
        return above.signum();
    }

    /** The greatest whole number that is no more. */
    long floor() {
        BigInteger[] parts = above.divideAndRemainder(below);
        return parts[0].longValueExact() - (parts[1].signum() < 0 ? 1 : 0);
    }

    long part(int part) {
        return (part == 0 ? above : below).longValueExact();
    }

    @Override
    public int compareTo(Frac other) {
        return above.multiply(other.below).compareTo(other.above.multiply(below));
    }
}
