import java.math.BigInteger;

/** Exact odds for the model, in lowest terms always. */
record Fraction(BigInteger above, BigInteger below) implements Comparable<Fraction> {
    static Fraction of(long above, long below) {
        return lowest(BigInteger.valueOf(above), BigInteger.valueOf(below));
    }

    private static Fraction lowest(BigInteger above, BigInteger below) {
        BigInteger common = above.gcd(below);
        return new Fraction(above.divide(common), below.divide(common));
    }

    Fraction plus(Fraction other) {
        return lowest(above.multiply(other.below).add(other.above.multiply(below)), below.multiply(other.below));
    }

    Fraction times(Fraction other) {
        return lowest(above.multiply(other.above), below.multiply(other.below));
    }

    long part(int part) {
        return (part == 0 ? above : below).longValueExact();
    }

    @Override
    public int compareTo(Fraction other) {
        return above.multiply(other.below).compareTo(other.above.multiply(below));
    }
}
