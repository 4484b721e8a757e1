/** A fraction in lowest terms, for tests that put the document's sums together again. */
final class Fraction {
    static final Fraction NULL = of(0);
    static final Fraction ONE = of(1);

    final long numerator;
    final long denominator;

    private Fraction(long numerator, long denominator) {
        long divisor = Math.max(1, divisor(Math.abs(numerator), Math.abs(denominator)));
        long sign = denominator < 0 ? -1 : 1;
        this.numerator = sign * numerator / divisor;
        this.denominator = sign * denominator / divisor;
    }

    static Fraction of(long number) {
        return new Fraction(number, 1);
    }

    /** What a desk has told; it must be in lowest terms already, with a denominator of 1 or more. */
    static Fraction told(String what, long numerator, long denominator) {
        Fraction fraction = new Fraction(numerator, Math.max(1, denominator));
        Check.fraction(what + " in lowest terms", numerator, denominator, fraction.toString());
        return fraction;
    }

    private static long divisor(long one, long other) {
        return other == 0 ? one : divisor(other, one % other);
    }

    Fraction plus(Fraction other) {
        return new Fraction(numerator * other.denominator + other.numerator * denominator, denominator * other.denominator);
    }

    Fraction less(Fraction other) {
        return plus(other.times(-1));
    }

    Fraction times(Fraction other) {
        return new Fraction(numerator * other.numerator, denominator * other.denominator);
    }

    Fraction times(long number) {
        return new Fraction(numerator * number, denominator);
    }

    Fraction over(Fraction other) {
        return new Fraction(numerator * other.denominator, denominator * other.numerator);
    }

    int sign() {
        return Long.signum(numerator);
    }

    boolean isAbove(Fraction other) {
        return less(other).sign() > 0;
    }

    boolean isSame(Fraction other) {
        return numerator == other.numerator && denominator == other.denominator;
    }

    @Override
    public String toString() {
        return numerator + "/" + denominator;
    }
}
