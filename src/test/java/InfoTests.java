/** Promise 17: info, and the constants. */
final class InfoTests {
    private InfoTests() {
    }

    static void run() {
        Check.test("promise 17: info", InfoTests::values);
        Check.test("promise 17: info while down", InfoTests::whileDown);
        Check.test("promise 17: info refuses", InfoTests::refuses);
        Sentence.test("face", "public static final int REFUSED = -1, CONFLICT = -2, FULL = -3, DOWN = -4, CORRUPT = "
            + "-5;", "each", InfoTests::constants);
    }

    private static void infos(ShardEngine x, int... want) {
        for (int what = 0; what < want.length; what++) {
            Check.due("info(" + what + ")", x.info(what), want[what]);
        }
    }

    private static ShardEngine shard() {
        ShardEngine x = new ShardEngine();
        x.write(1, 0, 1L, -1);
        x.write(1, 1, 1L, -1);
        x.flush();
        x.write(1, 2, 1L, -1);
        x.sync(true);
        x.replica(1, 3, 7, 1, 1L);
        x.sync(false);
        x.write(2, 4, 1L, -1);
        x.refresh();
        x.replica(1, 5, 3, 1, 1L);
        return x;
    }

    private static void values() {
        infos(shard(), 8, 3, 2, 2, 1, 49, 19, 0, 1, 1, 4);
    }

    private static void whileDown() {
        ShardEngine x = shard();
        Check.due("lost", x.crash(7), 23);
        infos(x, -1, -1, -1, 2, 1, 26, 19, 1, 1, 1, 0);
        Check.due("recover", x.recover(-1), 2);
        infos(x, 7, 2, 2, 2, 1, 19, 19, 0, 1, 1, 4);
    }

    private static void refuses() {
        ShardEngine x = shard();
        int[] wrong = {-1, 11, 12, Integer.MAX_VALUE, Integer.MIN_VALUE};
        for (int what : wrong) {
            Check.due("info(" + what + ")", x.info(what), -1);
        }
        x.crash(0);
        Check.due("info(11) while down", x.info(11), -1);
    }

    private static void constants() {
        Check.due("REFUSED", ShardEngine.REFUSED, -1);
        Check.due("CONFLICT", ShardEngine.CONFLICT, -2);
        Check.due("FULL", ShardEngine.FULL, -3);
        Check.due("DOWN", ShardEngine.DOWN, -4);
        Check.due("CORRUPT", ShardEngine.CORRUPT, -5);
    }
}
