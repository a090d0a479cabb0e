import java.math.BigInteger;

/** A fraction in lowest terms with a denominator above 0, of any size. */
final class Fraction {
    static final Fraction ZERO = of(0);
    static final Fraction ONE = of(1);

    final BigInteger top;
    final BigInteger bottom;

    private Fraction(BigInteger top, BigInteger bottom) {
        BigInteger divisor = top.gcd(bottom);
        BigInteger signed = bottom.signum() < 0 ? divisor.negate() : divisor;
        this.top = top.divide(signed);
        this.bottom = bottom.divide(signed);
    }

    static Fraction of(long whole) {
        return new Fraction(BigInteger.valueOf(whole), BigInteger.ONE);
    }

    static Fraction of(long top, long bottom) {
        return new Fraction(BigInteger.valueOf(top), BigInteger.valueOf(bottom));
    }

    Fraction plus(Fraction other) {
        return new Fraction(
                top.multiply(other.bottom).add(other.top.multiply(bottom)),
                bottom.multiply(other.bottom));
    }

    Fraction minus(Fraction other) {
        return plus(other.negative());
    }

    Fraction negative() {
        return new Fraction(top.negate(), bottom);
    }

    Fraction times(Fraction other) {
        return new Fraction(top.multiply(other.top), bottom.multiply(other.bottom));
    }

    Fraction over(Fraction other) {
        return new Fraction(top.multiply(other.bottom), bottom.multiply(other.top));
    }

    int sign() {
        return top.signum();
    }

    int compareWith(Fraction other) {
        return minus(other).sign();
    }
}
