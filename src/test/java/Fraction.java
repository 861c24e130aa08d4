import java.math.BigInteger;

/** A number as the Oracle has it: top by bottom, without a common divisor, the bottom above 0. */
record Fraction(BigInteger top, BigInteger bottom) implements Comparable<Fraction> {
    static final Fraction ZERO = of(0);

    static Fraction of(long whole) {
        return new Fraction(BigInteger.valueOf(whole), BigInteger.ONE);
    }

    /** p by 2 to the k. */
    static Fraction of(int p, int k) {
        return of(p).by(BigInteger.TWO.pow(k));
    }

    static Fraction of(BigInteger top, BigInteger bottom) {
        BigInteger divisor = top.gcd(bottom);
        if (bottom.signum() < 0) divisor = divisor.negate();
        return new Fraction(top.divide(divisor), bottom.divide(divisor));
    }

    Fraction by(BigInteger number) {
        return of(top, bottom.multiply(number));
    }

    Fraction by(long number) {
        return by(BigInteger.valueOf(number));
    }

    Fraction times(BigInteger number) {
        return of(top.multiply(number), bottom);
    }

    Fraction plus(Fraction other) {
        return of(top.multiply(other.bottom).add(other.top.multiply(bottom)), bottom.multiply(other.bottom));
    }

    Fraction plus(long whole) {
        return plus(of(whole));
    }

    Fraction less() {
        return of(top.negate(), bottom);
    }

    Fraction withoutSign() {
        return of(top.abs(), bottom);
    }

    boolean isWhole() {
        return bottom.equals(BigInteger.ONE);
    }

    int sign() {
        return top.signum();
    }

    /** Rounded down. */
    BigInteger floor() {
        BigInteger[] parts = top.divideAndRemainder(bottom);
        return parts[1].signum() < 0 ? parts[0].subtract(BigInteger.ONE) : parts[0];
    }

    @Override
    public int compareTo(Fraction other) {
        return top.multiply(other.bottom).compareTo(other.top.multiply(bottom));
    }
}
