/** The bytes of records, and promises 8, 9, 10 and 12: sync, flush, crash, flip. */
final class LogTests {
    private static final long SOURCE = Sources.source(0x44332211, 5, 6, 7, 8, 9, 10, 11, 12);

    private LogTests() {
    }

    static void run() {
        Check.test("terms: the bytes of an INDEX", LogTests::bytesOfIndex);
        Check.test("terms: the bytes of a DELETE and of NOTHING", LogTests::bytesOfOthers);
        Check.test("promise 8: sync", LogTests::syncCounts);
        Check.test("promise 8: sync with roll", LogTests::syncRolls);
        Check.test("promise 9: flush drops all", LogTests::flushAll);
        Check.test("promise 9: flush drops from the oldest on", LogTests::flushSome);
        Check.test("promise 9: flush is full", LogTests::flushFull);
        Check.test("promise 9: flush goes by the records as they were appended", LogTests::flushAsAppended);
        Check.test("promise 9: flush goes by the records of the latest recovery", LogTests::flushAsRecovered);
        Check.test("promise 10: crash", LogTests::crashKeeps);
        Check.test("promise 10: crash refuses", LogTests::crashRefuses);
        Check.test("promise 12: flip", LogTests::flipBytes);
        Check.test("promise 12: flip finds generations by their number", LogTests::flipByNumber);
    }

    private static void sameBytes(ShardEngine x, int generation, int at, int[] want) {
        for (int i = 0; i < want.length; i++) {
            Check.due("byte " + (at + i), Sources.byteAt(x, generation, at + i), want[i]);
        }
    }

    private static void sameChecksum(ShardEngine x, int generation, int at, int count) {
        java.util.zip.CRC32 crc = new java.util.zip.CRC32();
        for (int i = 0; i < count; i++) {
            crc.update(Sources.byteAt(x, generation, at + i));
        }
        for (int i = 0; i < 4; i++) {
            Check.due("crc byte " + i, Sources.byteAt(x, generation, at + count + i),
                (crc.getValue() >>> (8 * i)) & 255);
        }
    }

    private static void bytesOfIndex() {
        ShardEngine x = new ShardEngine();
        x.replica(1, 13, 62, 0x1234, SOURCE);
        sameBytes(x, 0, 0, new int[] {14, 1, 62, 0, 13, 0x34, 0x12, 0x11, 0x22, 0x33, 0x44, 0x65, 0x87, 0xA9, 0xCB});
        sameChecksum(x, 0, 0, 15);
        Check.due("no more", x.flip(0, 19, 0), -1);
    }

    private static void bytesOfOthers() {
        ShardEngine x = new ShardEngine();
        x.replica(2, 15, 1, 60000, SOURCE);
        x.replica(3, 15, 0, 60000, SOURCE);
        sameBytes(x, 0, 0, new int[] {6, 2, 1, 0, 15, 0x60, 0xEA});
        sameChecksum(x, 0, 0, 7);
        sameBytes(x, 0, 11, new int[] {3, 3, 0, 0});
        sameChecksum(x, 0, 11, 4);
        Check.due("no more", x.flip(0, 19, 0), -1);
        for (int round = 0; round < 11; round++) {
            x.replica(3, 0, x.info(1) + 26, 0, 0L);
            Check.due("fill", x.fill(), 25);
            x.flush();
        }
        Check.due("max", x.info(0), 287);
        int number = x.info(4);
        x.write(2, 3, 0L, -1);
        sameBytes(x, number, 0, new int[] {6, 2, 32, 1, 3, 1, 0});
        sameChecksum(x, number, 0, 7);
    }

    private static void syncCounts() {
        ShardEngine x = new ShardEngine();
        Check.due("nothing", x.sync(false), 0);
        x.write(1, 0, 1L, -1);
        Check.due("persisted not yet", x.info(2), -1);
        Check.due("synced not yet", x.info(6), 0);
        Check.due("one", x.sync(false), 19);
        Check.due("synced", x.info(6), 19);
        Check.due("persisted", x.info(2), 0);
        Check.due("none", x.sync(false), 0);
        x.write(2, 0, 1L, -1);
        Check.due("persisted stays", x.info(2), 0);
        Check.due("only the new", x.sync(false), 11);
        x.replica(3, 0, 9, 0, 0L);
        Check.due("a record ahead", x.sync(false), 8);
        Check.due("persisted is CHECKPOINT, not MAX", x.info(2), 1);
        x.crash(0);
        Check.due("down", x.sync(false), -4);
        Check.due("down", x.sync(true), -4);
    }

    private static void syncRolls() {
        ShardEngine x = new ShardEngine();
        x.write(1, 0, 1L, -1);
        Check.due("its number", x.sync(true), 1);
        Check.due("generations", x.info(3), 2);
        Check.due("oldest", x.info(4), 0);
        Check.due("bytes", x.info(5), 0);
        Check.due("synced", x.info(6), 0);
        Check.due("persisted", x.info(2), 0);
        Check.due("an empty one", x.sync(true), 2);
        Check.due("a fourth", x.sync(true), 3);
        Check.due("generations", x.info(3), 4);
        x.write(1, 1, 1L, -1);
        Check.due("full", x.sync(true), -3);
        Check.due("not synced by it", x.info(6), 0);
        Check.due("persisted stays", x.info(2), 0);
        Check.due("without roll", x.sync(false), 19);
        Check.due("persisted", x.info(2), 1);
        Check.due("all go", x.flush(), 4);
        Check.due("the numbers go on", x.sync(true), 5);
        Check.due("oldest", x.info(4), 4);
    }

    private static void flushAll() {
        ShardEngine x = new ShardEngine();
        Check.due("an empty one, nothing processed", new ShardEngine().flush(), 1);
        x.write(1, 0, SOURCE, -1);
        x.write(2, 1, 0L, -1);
        Check.due("one", x.flush(), 1);
        int[] want = {1, 1, 1, 1, 1, 0, 0, 0, 1, 1, 0};
        for (int what = 0; what < want.length; what++) {
            Check.due("info(" + what + ")", x.info(what), want[what]);
        }
        Check.due("gone", x.flip(0, 0, 0), -1);
        Check.due("an empty one goes", x.flush(), 1);
        Check.due("oldest", x.info(4), 2);
        x.write(1, 0, 9L, -1);
        x.crash(0);
        Check.due("nothing to replay", x.recover(-1), 0);
        Check.due("the source of the commit", x.get(0), SOURCE);
        Check.due("its version", x.known(0, 2), 1);
        Check.due("the tombstone of the commit", x.known(1, 0), 2);
        Check.due("max", x.info(0), 1);
        x.crash(0);
        Check.due("down", x.flush(), -4);
    }

    private static void flushSome() {
        ShardEngine x = new ShardEngine();
        x.write(1, 0, 1L, -1);
        x.sync(true);
        x.replica(1, 1, 3, 1, 1L);
        x.sync(true);
        x.write(1, 2, 1L, -1);
        Check.due("only the first", x.flush(), 1);
        Check.due("oldest", x.info(4), 1);
        Check.due("generations", x.info(3), 3);
        Check.due("synced by it", x.flip(2, 18, 0) >= 0 ? 1 : 0, 1);
        Check.due("commit checkpoint", x.info(8), 0);
        Check.due("commit max", x.info(9), 4);
        Check.due("persisted", x.info(2), 0);
        Check.due("gaps 1 2", x.fill(), 2);
        Check.due("commit stays", x.info(8), 0);
        Check.due("all", x.flush(), 3);
        Check.due("commit checkpoint", x.info(8), 4);
        Check.due("current", x.info(4), 4);
        ShardEngine y = new ShardEngine();
        y.replica(3, 0, 1, 0, 0L);
        y.sync(true);
        y.sync(true);
        Check.due("none goes behind one that stays", y.flush(), 0);
        Check.due("generations", y.info(3), 4);
        Check.due("oldest", y.info(4), 0);
        ShardEngine z = new ShardEngine();
        z.replica(3, 0, 1, 0, 0L);
        z.replica(3, 0, 0, 0, 0L);
        Check.due("the greatest counts, not the last", z.flush(), 1);
        z.replica(3, 0, 9, 0, 0L);
        z.replica(3, 0, 2, 0, 0L);
        Check.due("the greatest counts, not the last", z.flush(), 0);
    }

    private static void flushFull() {
        ShardEngine x = new ShardEngine();
        x.replica(1, 1, 1, 1, 1L);
        x.sync(true);
        x.sync(true);
        x.sync(true);
        x.write(1, 2, 1L, -1);
        Check.due("full", x.flush(), -3);
        Check.due("not synced", x.info(6), 0);
        Check.due("no commit", x.info(9), -1);
        Check.due("persisted", x.info(2), -1);
        Check.due("no other", x.info(3), 4);
        x.replica(3, 0, 0, 0, 0L);
        Check.due("persisted stays", x.info(2), -1);
        Check.due("all", x.flush(), 4);
        Check.due("persisted", x.info(2), 2);
    }

    private static void flushAsAppended() {
        ShardEngine x = new ShardEngine();
        x.write(1, 0, 1L, -1);
        Sources.forge(x, 0, 0, 2, 50);
        Check.due("goes all the same", x.flush(), 1);
        ShardEngine y = new ShardEngine();
        y.replica(1, 0, 50, 1, 1L);
        Sources.forge(y, 0, 0, 2, 0);
        Check.due("stays all the same", y.flush(), 0);
    }

    private static void flushAsRecovered() {
        ShardEngine x = new ShardEngine();
        x.write(1, 0, 1L, -1);
        x.sync(false);
        Sources.forge(x, 0, 0, 2, 50);
        x.crash(0);
        Check.due("recover", x.recover(-1), 1);
        Check.due("stays", x.flush(), 0);
        ShardEngine y = new ShardEngine();
        y.replica(1, 0, 50, 1, 1L);
        y.sync(false);
        Sources.forge(y, 0, 0, 2, 0);
        y.crash(0);
        y.recover(-1);
        Check.due("goes", y.flush(), 1);
        ShardEngine z = new ShardEngine();
        z.write(1, 0, 1L, -1);
        z.sync(false);
        z.replica(1, 0, 50, 1, 1L);
        z.crash(18);
        z.recover(-1);
        Check.due("what is cut off counts no more", z.flush(), 1);
        ShardEngine w = new ShardEngine();
        w.replica(3, 0, 1, 1, 1L);
        w.flush();
        w.replica(3, 0, 1 + w.info(1) + 5, 1, 1L);
        w.sync(false);
        Check.due("recover", Sources.recovered(w).info(0), 5);
        Check.due("gone through again", w.flush(), 0);
        Check.due("oldest", w.info(4), 0);
    }

    private static void crashKeeps() {
        ShardEngine x = new ShardEngine();
        x.write(1, 0, 1L, -1);
        x.sync(false);
        x.write(1, 1, 1L, -1);
        x.write(2, 2, 1L, -1);
        x.ask(0, 0, 0);
        x.refresh();
        Check.due("lost", x.crash(12), 18);
        Check.due("bytes", x.info(5), 31);
        Check.due("synced", x.info(6), 19);
        Check.due("down", x.info(7), 1);
        Check.due("down again", x.crash(0), -4);
        Check.due("the query stays", x.ask(0, 0, 0), 2);
        Check.due("recover", x.recover(-1), 1);
        Check.due("the torn one is gone", x.known(1, 0), 0);
        Check.due("bytes", x.info(5), 19);
        x.write(1, 3, 1L, -1);
        x.write(1, 4, 1L, -1);
        Check.due("lost", x.crash(19), 19);
        x.recover(-1);
        Check.due("the whole one stays", x.known(3, 1), 1);
        Check.due("the other does not", x.known(4, 1), -1);
    }

    private static void crashRefuses() {
        ShardEngine x = new ShardEngine();
        Check.due("-1", x.crash(-1), -1);
        Check.due("1 of none", x.crash(1), -1);
        Check.due("up", x.info(7), 0);
        x.write(1, 0, 1L, -1);
        Check.due("20 of 19", x.crash(20), -1);
        Check.due("greatest", x.crash(Integer.MAX_VALUE), -1);
        Check.due("least", x.crash(Integer.MIN_VALUE), -1);
        Check.due("nothing lost", x.info(5), 19);
        Check.due("still there", x.get(0), 1);
        Check.due("all stay", x.crash(19), 0);
        Check.due("bytes", x.info(5), 19);
        Check.due("none synced", x.info(6), 0);
        Check.due("down before refused", x.crash(-5), -4);
    }

    private static void flipBytes() {
        ShardEngine x = new ShardEngine();
        x.write(1, 6, 0xF0L, -1);
        Check.due("as it is", x.flip(0, 7, 0), 0xF0);
        Check.due("all bits", x.flip(0, 7, 255), 0x0F);
        Check.due("as it is then", x.flip(0, 7, 0), 0x0F);
        Check.due("back", x.flip(0, 7, 255), 0xF0);
        int[][] wrong = {{0, -1, 1}, {0, 19, 1}, {0, 0, -1}, {0, 0, 256}, {1, 0, 1}, {-1, 0, 1},
            {0, Integer.MIN_VALUE, 1}, {Integer.MAX_VALUE, 0, 1}, {4, 0, 1}, {0, 240, 0}};
        for (int[] w : wrong) {
            Check.due("flip(" + w[0] + ", " + w[1] + ", " + w[2] + ")", x.flip(w[0], w[1], w[2]), -1);
        }
        Check.due("last byte", x.flip(0, 18, 0) >= 0 ? 1 : 0, 1);
        Check.due("what is known stays", x.get(6), 0xF0);
        x.crash(19);
        Check.due("works down", x.flip(0, 7, 1), 0xF1);
        Check.due("refuses down", x.flip(0, 19, 1), -1);
        Check.due("cut off", x.recover(-1), 0);
        Check.due("bytes", x.info(5), 0);
        Check.due("gone", x.flip(0, 0, 0), -1);
    }

    private static void flipByNumber() {
        ShardEngine x = new ShardEngine();
        for (int i = 0; i < 6; i++) {
            x.write(1, i, i + 100L, -1);
            x.flush();
        }
        x.write(1, 6, 106L, -1);
        x.sync(true);
        x.write(1, 7, 107L, -1);
        x.sync(true);
        x.write(1, 8, 108L, -1);
        x.sync(true);
        for (int number = 6; number < 9; number++) {
            Check.due("generation " + number, x.flip(number, 7, 0), number + 100);
        }
        Check.due("gone", x.flip(5, 7, 0), -1);
        Check.due("empty", x.flip(9, 0, 0), -1);
        Check.due("none yet", x.flip(10, 0, 0), -1);
        Check.due("change", x.flip(7, 7, 3), 107 ^ 3);
        Check.due("only there", x.flip(6, 7, 0), 106);
        Check.due("only there", x.flip(8, 7, 0), 108);
    }
}
