import java.math.BigInteger;

/** A whole fraction, as plain as can be: what the class's own scaled numbers are held against. */
final class Fraction implements Comparable<Fraction> {
  static final Fraction ZERO = of(0);

  private final BigInteger top;
  private final BigInteger bottom;

  private Fraction(BigInteger top, BigInteger bottom) {
    BigInteger by = top.gcd(bottom);
    if (bottom.signum() < 0) by = by.negate();
    this.top = top.divide(by);
    this.bottom = bottom.divide(by);
  }

  static Fraction of(long whole) { return new Fraction(BigInteger.valueOf(whole), BigInteger.ONE); }

  Fraction plus(Fraction o) { return new Fraction(top.multiply(o.bottom).add(o.top.multiply(bottom)), bottom.multiply(o.bottom)); }

  Fraction minus(Fraction o) { return plus(o.times(of(-1))); }

  Fraction times(Fraction o) { return new Fraction(top.multiply(o.top), bottom.multiply(o.bottom)); }

  Fraction times(long whole) { return times(of(whole)); }

  Fraction through(Fraction o) { return new Fraction(top.multiply(o.bottom), bottom.multiply(o.top)); }

  Fraction through(long whole) { return through(of(whole)); }

  boolean isZero() { return top.signum() == 0; }

  /** Cut towards 0. */
  long cut() { return top.divide(bottom).longValueExact(); }

  @Override public int compareTo(Fraction o) { return top.multiply(o.bottom).compareTo(o.top.multiply(bottom)); }
}
