/** Promise 10: product(). */
public final class ProductTest {
    private static final Checks CHECKS = new Checks();

    public static void main(String[] args) {
        for (int a = 0; a < 256; a++) {
            CipherModes x = new CipherModes();
            for (int b = 0; b < 256; b++) {
                CHECKS.due("product(" + a + ", " + b + ")", x.product(a, b), productOf(a, b));
            }
        }
        CipherModes x = new CipherModes();
        for (int wrong : new int[] {-1, 256, 257, -256, Integer.MIN_VALUE, Integer.MAX_VALUE}) {
            for (int fine : new int[] {0, 1, 255}) {
                CHECKS.due("product(" + wrong + ", " + fine + ")", x.product(wrong, fine), CipherModes.BAD);
                CHECKS.due("product(" + fine + ", " + wrong + ")", x.product(fine, wrong), CipherModes.BAD);
            }
            CHECKS.due("product of two wrong ones", x.product(wrong, wrong), CipherModes.BAD);
        }
        CHECKS.close("ProductTest");
    }

    /** The whole product first, and then what is left of it. */
    static int productOf(int a, int b) {
        int whole = 0;
        for (int i = 0; i < 8; i++) {
            whole ^= ((b >> i) & 1) * (a << i);
        }
        for (int i = 14; i >= 8; i--) {
            whole ^= ((whole >> i) & 1) * (0x11B << (i - 8));
        }
        return whole;
    }
}
