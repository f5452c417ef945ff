/** Promise 9: box(), by the words of the document. */
public final class BoxTest {
    private static final Checks CHECKS = new Checks();

    public static void main(String[] args) {
        CipherModes x = new CipherModes();
        for (int a = 0; a < 256; a++) {
            CHECKS.due("box(" + a + ", 0)", x.box(a, 0), boxOf(a));
            CHECKS.due("box of " + a + " and back", x.box(boxOf(a), 1), a);
        }
        wrongArguments();
        CHECKS.close("BoxTest");
    }

    private static int boxOf(int a) {
        int inverse = 0;
        for (int b = 1; b < 256; b++) {
            if (ProductTest.productOf(a, b) == 1) {
                inverse = b;
            }
        }
        int box = 0;
        for (int i = 0; i < 8; i++) {
            int sum = (99 >> i) & 1;
            for (int k : new int[] {0, 4, 5, 6, 7}) {
                sum += (inverse >> ((i + k) % 8)) & 1;
            }
            box |= (sum % 2) << i;
        }
        return box;
    }

    private static void wrongArguments() {
        CipherModes x = new CipherModes();
        for (int a : new int[] {-1, 256, 257, 512, -256, Integer.MIN_VALUE, Integer.MAX_VALUE}) {
            CHECKS.due("box(" + a + ", 0)", x.box(a, 0), CipherModes.BAD);
            CHECKS.due("box(" + a + ", 1)", x.box(a, 1), CipherModes.BAD);
        }
        for (int back : new int[] {-1, 2, 3, 256, Integer.MIN_VALUE, Integer.MAX_VALUE}) {
            CHECKS.due("box(0, " + back + ")", x.box(0, back), CipherModes.BAD);
            CHECKS.due("box(255, " + back + ")", x.box(255, back), CipherModes.BAD);
        }
        CHECKS.due("box(0, 0)", x.box(0, 0), 99);
        CHECKS.due("box(99, 1)", x.box(99, 1), 0);
    }
}
