import java.math.BigInteger;

/** The document's CHANCE in whole numbers without an end, so that the 64 bits are cut off by hand. */
final class BigChance {
    private static final BigInteger FACTOR = new BigInteger("6364136223846793005");
    private static final BigInteger STEP = new BigInteger("1442695040888963407");
    private static final BigInteger BITS_64 = BigInteger.TWO.pow(64);
    private static final BigInteger LOWER_33 = BigInteger.TWO.pow(33);

    private BigInteger x;

    BigChance(long seed) {
        x = BigInteger.valueOf(seed).mod(BITS_64);
    }

    int below(int k) {
        x = FACTOR.multiply(x).add(STEP).mod(BITS_64);
        return upperBits() % k;
    }

    int upperBits() {
        return x.divide(LOWER_33).intValueExact();
    }

    BigChance after(int numbers) {
        for (int i = 0; i < numbers; i++) {
            below(1);
        }
        return this;
    }
}
