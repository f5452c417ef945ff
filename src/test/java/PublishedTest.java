/** Messages with what the standards print for them: SP 800-38A, RFC 3962, IEEE 1619. */
public final class PublishedTest {
    private static final Checks CHECKS = new Checks();
    private static final String TEXT = "6bc1bee22e409f96e93d7e117393172aae2d8a571e03ac9c9eb76fac45af8e51"
            + "30c81c46a35ce411e5fbc1191a0a52eff69f2445df4f9b17ad2b417be66c3710";

    public static void main(String[] args) {
        modesOfOperation();
        stolen();
        tweaked();
        CHECKS.close("PublishedTest");
    }

    private static void bothWays(int mode, String key, String initial, String clear, String hidden) {
        for (int shows = 0; shows <= 1; shows++) {
            CipherModes x = Calls.made(Calls.hex(key), Calls.hex(initial));
            int words = key.length() / (mode == 10 ? 16 : 8);
            CHECKS.due("begin", x.begin(mode, words, shows), 0);
            Calls.feedAll(x, Calls.hex(shows == 0 ? clear : hidden), 7);
            x.end();
            Calls.dueGiven(CHECKS, "mode " + mode + ", shows " + shows, x, Calls.hex(shows == 0 ? hidden : clear));
        }
    }

    private static void modesOfOperation() {
        String key = "2b7e151628aed2a6abf7158809cf4f3c";
        String initial = "000102030405060708090a0b0c0d0e0f";
        bothWays(0, key, initial, TEXT, "3ad77bb40d7a3660a89ecaf32466ef97f5d3d58503b9699de785895a96fdbaaf"
                + "43b1cd7f598ece23881b00e3ed0306887b0c785e27e8ad3f8223207104725dd4");
        bothWays(1, key, initial, TEXT, "7649abac8119b246cee98e9b12e9197d5086cb9b507219ee95db113a917678b2"
                + "73bed6b8e3c1743b7116e69e222295163ff1caa1681fac09120eca307586e1a7");
        bothWays(6, key, "f0f1f2f3f4f5f6f7f8f9fafbfcfdfeff", TEXT,
                "874d6191b620e3261bef6864990db6ce9806f66b7970fdff8617187bb9fffdff"
                + "5ae4df3edbd5d35e5b4f09020db03eab1e031dda2fbe03d1792170a0f3009cee");
        bothWays(7, key, initial, TEXT, "3b3fd92eb72dad20333449f8e83cfb4a7789508d16918f03f53c52dac54ed825"
                + "9740051e9c5fecf64344f7a82260edcc304c6528f659c77866a510d9c1d6ae5e");
        bothWays(8, key, initial, TEXT, "3b3fd92eb72dad20333449f8e83cfb4ac8a64537a0b3a93fcde3cdad9f1ce58b"
                + "26751f67a3cbb140b1808cf187a4f4dfc04b05357c5d1c0eeac4c66f9ff7f2e6");
        bothWays(9, key, initial, TEXT.substring(0, 36), "3b79424c9c0dd436bace9e0ed4586a4f32b9");
    }

    private static void stolen() {
        String key = "636869636b656e207465726979616b69";
        String initial = "00000000000000000000000000000000";
        String text = "4920776f756c64206c696b65207468652047656e6572616c2047617527732043";
        bothWays(5, key, initial, text.substring(0, 34), "c6353568f2bf8cb4d8a580362da7ff7f97");
        bothWays(5, key, initial, text.substring(0, 62), "fc00783e0efdb2c1d445d4c8eff7ed2297687268d6ecccc0c07b25e25ecfe5");
        bothWays(5, key, initial, text, "39312523a78662d5be7fcbcc98ebf5a897687268d6ecccc0c07b25e25ecfe584");
        // The same blocks in the other orders.
        bothWays(4, key, initial, text.substring(0, 34), "c6353568f2bf8cb4d8a580362da7ff7f97");
        bothWays(4, key, initial, text, "97687268d6ecccc0c07b25e25ecfe58439312523a78662d5be7fcbcc98ebf5a8");
        bothWays(3, key, initial, text.substring(0, 34), "97c6353568f2bf8cb4d8a580362da7ff7f");
        bothWays(3, key, initial, text, "97687268d6ecccc0c07b25e25ecfe58439312523a78662d5be7fcbcc98ebf5a8");
    }

    private static void tweaked() {
        bothWays(10, "00".repeat(32), "00".repeat(16), "00".repeat(32),
                "917cf69ebd68b2ec9b9fe9a3eadda692cd43d2f59598ed858c02c2652fbf922e");
        bothWays(10, "11".repeat(16) + "22".repeat(16), "33".repeat(5) + "00".repeat(11), "44".repeat(32),
                "c454185e6a16936e39334038acef838bfb186fff7480adc4289382ecd6d394f0");
        bothWays(10, "fffefdfcfbfaf9f8f7f6f5f4f3f2f1f0bfbebdbcbbbab9b8b7b6b5b4b3b2b1b0",
                "9a785634120000000000000000000000", "000102030405060708090a0b0c0d0e0f10",
                "6c1625db4671522d3d7599601de7ca09ed");
    }
}
