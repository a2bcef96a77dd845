/** Promises 1 to 7: a new object, write, replica, fill, get, known, refresh. */
final class DocumentTests {
    private static final long SOURCE = Sources.source(7, 1, 2);

    private DocumentTests() {
    }

    static void run() {
        Check.test("promise 1: a new object", DocumentTests::newObject);
        Check.test("promise 1: objects do not share anything", DocumentTests::objectsApart);
        Check.test("promise 2: write counts SEQ and VERSION", DocumentTests::writeCounts);
        Check.test("promise 2: write with ifSeq", DocumentTests::writeIfSeq);
        Check.test("promise 2: write refuses", DocumentTests::writeRefuses);
        Check.test("promise 2: write is full by bytes", DocumentTests::writeFullByBytes);
        Check.test("promise 2: a generation holds 240 bytes, not 241", DocumentTests::writeLastByte);
        Check.test("promise 2: write is full by SEQ", DocumentTests::writeFullBySeq);
        Check.test("promise 2: write's VERSION comes round", DocumentTests::writeVersionRound);
        Check.test("promise 2: the order of write's answers", DocumentTests::writeOrder);
        Check.test("promise 3: replica out of order", DocumentTests::replicaOrder);
        Check.test("promise 3: replica and the 64 SEQ ahead", DocumentTests::replicaWindow);
        Check.test("promise 3: replica refuses", DocumentTests::replicaRefuses);
        Check.test("promise 3: replica is full", DocumentTests::replicaFull);
        Check.test("promise 4: fill", DocumentTests::fillGaps);
        Check.test("promise 4: fill is full", DocumentTests::fillFull);
        Check.test("promise 5: get", DocumentTests::getSources);
        Check.test("promise 6: known", DocumentTests::knownOfIds);
        Check.test("promise 7: refresh", DocumentTests::refreshPoints);
        Check.test("promise 7: refresh forgets tombstones up to CHECKPOINT", DocumentTests::refreshForgets);
    }

    private static void newObject() {
        ShardEngine x = new ShardEngine();
        int[] want = {-1, -1, -1, 1, 0, 0, 0, 0, -1, -1, 0};
        for (int what = 0; what < want.length; what++) {
            Check.due("info(" + what + ")", x.info(what), want[what]);
        }
        for (int id = 0; id < 16; id++) {
            Check.due("get", x.get(id), 0);
            Check.due("known 0", x.known(id, 0), 0);
            Check.due("known 1", x.known(id, 1), -1);
            Check.due("known 2", x.known(id, 2), 0);
            Check.due("known 3", x.known(id, 3), 0);
            Check.due("known 4", x.known(id, 4), -1);
        }
        Check.due("hit of the empty query", x.hit(0, -1), -1);
        Check.due("recover of a shard that is up", x.recover(-1), -1);
        Check.due("flip of no byte", x.flip(0, 0, 0), -1);
    }

    private static void objectsApart() {
        ShardEngine x = new ShardEngine();
        ShardEngine y = new ShardEngine();
        x.write(1, 3, SOURCE, -1);
        x.ask(0, 0, 0);
        x.flush();
        Check.due("y get", y.get(3), 0);
        Check.due("y bytes", y.info(5), 0);
        Check.due("y commit", y.info(9), -1);
        Check.due("y query", y.ask(0, 0, 0), 1);
    }

    private static void writeCounts() {
        ShardEngine x = new ShardEngine();
        Check.due("first", x.write(1, 0, SOURCE, -1), 0);
        Check.due("second", x.write(1, 0, SOURCE + 1, -1), 1);
        Check.due("other id", x.write(1, 15, 5L, -1), 2);
        Check.due("version", x.known(0, 2), 2);
        Check.due("version of the other", x.known(15, 2), 1);
        Check.due("delete", x.write(2, 0, 99L, -1), 3);
        Check.due("delete again", x.write(2, 0, 99L, -1), 4);
        Check.due("delete of none", x.write(2, 9, 99L, -1), 5);
        Check.due("version of a tombstone", x.known(0, 2), 4);
        Check.due("tombstone of none", x.known(9, 0), 2);
        Check.due("version of it", x.known(9, 2), 1);
        Check.due("source of a tombstone", x.get(0), 0);
        Check.due("bytes", x.info(5), 3 * 19 + 3 * 11);
        Check.due("index again", x.write(1, 0, 1L, -1), 6);
        Check.due("its version", x.known(0, 2), 5);
        Check.due("max", x.info(0), 6);
        Check.due("checkpoint", x.info(1), 6);
    }

    private static void writeIfSeq() {
        ShardEngine x = new ShardEngine();
        Check.due("0 with none", x.write(1, 4, 1L, 0), -2);
        Check.due("-2 with none", x.write(1, 4, 1L, -2), 0);
        Check.due("-2 with one", x.write(1, 4, 2L, -2), -2);
        Check.due("wrong seq", x.write(1, 4, 2L, 1), -2);
        Check.due("greatest seq", x.write(1, 4, 2L, Integer.MAX_VALUE), -2);
        Check.due("right seq", x.write(1, 4, 2L, 0), 1);
        Check.due("old seq", x.write(2, 4, 2L, 0), -2);
        Check.due("source stayed", x.get(4), 2);
        Check.due("version stayed", x.known(4, 2), 2);
        Check.due("bytes stayed", x.info(5), 38);
        Check.due("delete by seq", x.write(2, 4, 2L, 1), 2);
        Check.due("seq of a tombstone", x.write(1, 4, 2L, 2), -2);
        Check.due("-2 with a tombstone", x.write(1, 4, 2L, -2), 3);
        Check.due("delete if there is none", x.write(2, 5, 2L, -2), 4);
        Check.due("delete of a tombstone by seq", x.write(2, 5, 2L, 4), -2);
    }

    private static void writeRefuses() {
        ShardEngine x = new ShardEngine();
        int[][] wrong = {{0, 0, -1}, {3, 0, -1}, {-1, 0, -1}, {1, -1, -1}, {1, 16, -1}, {2, 16, -1},
            {1, 0, -3}, {2, 0, Integer.MIN_VALUE}, {Integer.MAX_VALUE, 0, -1}};
        for (int[] w : wrong) {
            Check.due("write(" + w[0] + ", " + w[1] + ", .., " + w[2] + ")", x.write(w[0], w[1], 1L, w[2]), -1);
        }
        Check.due("nothing changed", x.info(0), -1);
        Check.due("no bytes", x.info(5), 0);
    }

    private static void writeFullByBytes() {
        ShardEngine x = new ShardEngine();
        for (int i = 0; i < 12; i++) {
            Check.due("write", x.write(1, i, SOURCE, -1), i);
        }
        Check.due("bytes", x.info(5), 228);
        Check.due("no place", x.write(1, 0, 1L, -1), -3);
        Check.due("nothing changed", x.get(0), SOURCE);
        Check.due("a place of 12", x.write(2, 0, 1L, -1), 12);
        Check.due("bytes", x.info(5), 239);
        Check.due("no place", x.write(2, 1, 1L, -1), -3);
        Check.due("nothing changed", x.known(1, 0), 1);
        Check.due("max", x.info(0), 12);
        ShardEngine y = new ShardEngine();
        for (int i = 0; i < 11; i++) {
            y.write(1, 0, SOURCE, -1);
        }
        y.replica(3, 0, 11, 0, 0L);
        y.replica(3, 0, 12, 0, 0L);
        Check.due("bytes", y.info(5), 225);
        Check.due("no place of 19", y.write(1, 0, 1L, -1), -3);
        y.sync(true);
        Check.due("place in another", y.write(1, 0, 1L, -1), 13);
    }

    private static void writeLastByte() {
        ShardEngine x = new ShardEngine();
        for (int i = 0; i < 16; i++) {
            Check.due("8 INDEX, 8 DELETE", x.write(1 + i / 8, 0, SOURCE, -1), i);
        }
        Check.due("bytes", x.info(5), 240);
        Check.due("full", x.write(2, 0, 1L, -1), -3);
        ShardEngine y = new ShardEngine();
        for (int i = 0; i < 25; i++) {
            y.replica(3, 0, i, 0, 0L);
        }
        y.write(2, 0, 1L, -1);
        y.write(2, 0, 1L, -1);
        Check.due("bytes", y.info(5), 222);
        Check.due("19 more are 241", y.write(1, 0, 1L, -1), -3);
        Check.due("18 places left", y.write(2, 0, 1L, -1), 27);
    }

    private static void writeFullBySeq() {
        ShardEngine x = new ShardEngine();
        x.replica(1, 0, 62, 1, SOURCE);
        Check.due("up to CHECKPOINT + 64", x.write(1, 1, 1L, -1), 63);
        Check.due("above", x.write(1, 2, 1L, -1), -3);
        Check.due("conflict before full", x.write(1, 2, 1L, 5), -2);
        Check.due("nothing changed", x.known(2, 0), 0);
        x.replica(3, 0, 0, 1, SOURCE);
        Check.due("one more", x.write(1, 2, 1L, -1), 64);
        Check.due("checkpoint", x.info(1), 0);
        Check.due("max", x.info(0), 64);
    }

    private static void writeVersionRound() {
        ShardEngine x = new ShardEngine();
        x.write(1, 0, SOURCE, -1);
        Sources.put(x, 0, 5, 255);
        Sources.put(x, 0, 6, 255);
        Sources.seal(x, 0, 0);
        x.crash(19);
        Check.due("recover", x.recover(-1), 1);
        Check.due("the greatest version", x.known(0, 2), 65535);
        x.write(1, 0, SOURCE, -1);
        Check.due("version 0", x.known(0, 2), 0);
        x.write(1, 0, SOURCE, -1);
        Check.due("version 1", x.known(0, 2), 1);
        ShardEngine y = new ShardEngine();
        y.replica(1, 0, 0, 60000, SOURCE);
        y.write(1, 0, 1L, -1);
        Check.due("above a replica's", y.known(0, 2), 60001);
    }

    private static void writeOrder() {
        ShardEngine x = new ShardEngine();
        for (int i = 0; i < 12; i++) {
            x.write(1, i, SOURCE, -1);
        }
        Check.due("refused before conflict", x.write(1, 16, 1L, 5), -1);
        Check.due("refused before full", x.write(1, 0, 1L, -3), -1);
        Check.due("conflict before full", x.write(1, 0, 1L, -2), -2);
        x.crash(0);
        Check.due("down before refused", x.write(9, 99, 1L, -3), -4);
    }

    private static void replicaOrder() {
        ShardEngine x = new ShardEngine();
        Check.due("ahead", x.replica(1, 2, 3, 7, SOURCE), 1);
        Check.due("checkpoint", x.info(1), -1);
        Check.due("max", x.info(0), 3);
        Check.due("older", x.replica(1, 2, 1, 3, 5L), 2);
        Check.due("source", x.get(2), SOURCE);
        Check.due("version", x.known(2, 2), 7);
        Check.due("older delete", x.replica(2, 2, 0, 2, 5L), 2);
        Check.due("document", x.known(2, 0), 1);
        Check.due("checkpoint", x.info(1), 1);
        Check.due("processed already", x.replica(1, 2, 3, 9, 5L), 0);
        Check.due("below the checkpoint", x.replica(2, 2, 0, 9, 5L), 0);
        Check.due("bytes", x.info(5), 19 + 19 + 11);
        Check.due("nothing known of it", x.replica(3, 2, 2, 9, 5L), 2);
        Check.due("checkpoint over the gap", x.info(1), 3);
        Check.due("tombstone", x.replica(2, 2, 4, 60000, 5L), 1);
        Check.due("tombstone", x.known(2, 0), 2);
        Check.due("tombstone of none", x.replica(2, 8, 5, 1, 5L), 1);
        Check.due("max", x.info(0), 5);
        Check.due("write goes on", x.write(1, 2, 1L, -1), 6);
        Check.due("its version", x.known(2, 2), 60001);
        Check.due("lower version", x.replica(1, 2, 7, 1, 8L), 1);
        Check.due("its version", x.known(2, 2), 1);
    }

    private static void replicaWindow() {
        ShardEngine x = new ShardEngine();
        x.replica(3, 0, 63, 0, 0L);
        x.replica(3, 0, 0, 0, 0L);
        Check.due("seq 64 is not processed", x.replica(1, 0, 64, 1, SOURCE), 1);
        Check.due("seq 63 is", x.replica(1, 0, 63, 1, SOURCE), 0);
        Check.due("seq 62 is not", x.replica(1, 0, 62, 1, SOURCE), 2);
        ShardEngine y = new ShardEngine();
        for (int seq = 63; seq > 0; seq--) {
            if (y.info(5) > 232) {
                y.sync(true);
            }
            Check.due("replica", y.replica(3, 0, seq, 0, 0L), 2);
        }
        Check.due("checkpoint", y.info(1), -1);
        Check.due("the last one", y.replica(3, 0, 0, 0, 0L), 2);
        Check.due("over all 64", y.info(1), 63);
        Check.due("none ahead", y.replica(3, 0, 64, 0, 0L), 2);
    }

    private static void replicaRefuses() {
        ShardEngine x = new ShardEngine();
        int[][] wrong = {{0, 0, 0, 1}, {4, 0, 0, 1}, {-1, 0, 0, 1}, {1, -1, 0, 1}, {1, 16, 0, 1}, {2, 16, 0, 1},
            {1, 0, -1, 1}, {1, 0, 64, 1}, {3, 0, 64, 1}, {3, 0, -1, 1}, {1, 0, 0, 0}, {2, 0, 0, 0},
            {1, 0, 0, 60001}, {2, 0, 0, 60001}, {1, 0, 0, -1}, {1, 0, Integer.MAX_VALUE, 1},
            {1, 0, Integer.MIN_VALUE, 1}};
        for (int[] w : wrong) {
            Check.due("replica(" + w[0] + ", " + w[1] + ", " + w[2] + ", " + w[3] + ")",
                x.replica(w[0], w[1], w[2], w[3], 1L), -1);
        }
        Check.due("nothing changed", x.info(0), -1);
        Check.due("no bytes", x.info(5), 0);
        Check.due("NOTHING has no id and no version", x.replica(3, -7, 0, 70000, 1L), 2);
        Check.due("up to CHECKPOINT + 64", x.replica(3, 0, 64, 0, 1L), 2);
        Check.due("above", x.replica(3, 0, 65, 0, 1L), -1);
        Check.due("refused before 0", x.replica(1, 16, 0, 1, 1L), -1);
        Check.due("refused before 0", x.replica(1, 1, 0, 0, 1L), -1);
        x.crash(0);
        Check.due("down before refused", x.replica(9, 99, -1, 0, 1L), -4);
    }

    private static void replicaFull() {
        ShardEngine x = new ShardEngine();
        for (int i = 0; i < 11; i++) {
            x.replica(1, 0, i, 1, SOURCE);
        }
        x.replica(2, 1, 20, 1, SOURCE);
        x.replica(3, 1, 21, 1, SOURCE);
        Check.due("bytes", x.info(5), 228);
        Check.due("no place of 19", x.replica(1, 0, 30, 1, 5L), -3);
        Check.due("0 before full", x.replica(1, 0, 20, 1, 5L), 0);
        Check.due("nothing changed", x.info(0), 21);
        x.replica(3, 0, 30, 1, 5L);
        Check.due("bytes", x.info(5), 236);
        Check.due("no place of 11", x.replica(2, 0, 31, 1, 5L), -3);
        Check.due("no place of 8", x.replica(3, 0, 31, 1, 5L), -3);
        Check.due("no change", x.info(5), 236);
        ShardEngine y = new ShardEngine();
        for (int i = 0; i < 30; i++) {
            Check.due("exactly 240 bytes", y.replica(3, 0, i, 1, 5L), 2);
        }
        Check.due("bytes", y.info(5), 240);
        Check.due("full", y.replica(3, 0, 30, 1, 5L), -3);
    }

    private static void fillGaps() {
        ShardEngine x = new ShardEngine();
        Check.due("none at first", x.fill(), 0);
        x.replica(1, 1, 2, 1, SOURCE);
        x.replica(1, 2, 5, 1, SOURCE);
        Check.due("gaps 0 1 3 4", x.fill(), 4);
        Check.due("checkpoint", x.info(1), 5);
        Check.due("max", x.info(0), 5);
        Check.due("none", x.fill(), 0);
        Check.due("bytes", x.info(5), 2 * 19 + 4 * 8);
        int[] seqs = {0, 1, 3, 4};
        for (int i = 0; i < 4; i++) {
            Check.due("L", Sources.byteAt(x, 0, 38 + 8 * i), 3);
            Check.due("kind", Sources.byteAt(x, 0, 39 + 8 * i), 3);
            Check.due("the least first", Sources.byteAt(x, 0, 40 + 8 * i), seqs[i]);
            Check.due("high byte", Sources.byteAt(x, 0, 41 + 8 * i), 0);
        }
        Check.due("processed now", x.replica(1, 3, 4, 1, 5L), 0);
        Check.due("known stayed", x.get(1), SOURCE);
        x.crash(0);
        Check.due("down", x.fill(), -4);
    }

    private static void fillFull() {
        ShardEngine x = new ShardEngine();
        x.replica(3, 0, 29, 0, 0L);
        Check.due("29 have their place", x.fill(), 29);
        Check.due("bytes", x.info(5), 240);
        Check.due("none is not full", x.fill(), 0);
        ShardEngine y = new ShardEngine();
        y.replica(3, 0, 30, 0, 0L);
        Check.due("30 have none", y.fill(), -3);
        Check.due("nothing changed", y.info(5), 8);
        Check.due("checkpoint", y.info(1), -1);
        y.sync(true);
        Check.due("another generation", y.fill(), 30);
        Check.due("checkpoint", y.info(1), 30);
    }

    private static void getSources() {
        ShardEngine x = new ShardEngine();
        x.write(1, 0, -1L, -1);
        x.write(1, 15, Long.MIN_VALUE, -1);
        Check.due("get(0)", x.get(0), -1L);
        Check.due("get(15)", x.get(15), Long.MIN_VALUE);
        Check.due("get(1)", x.get(1), 0);
        Check.due("get(-1)", x.get(-1), -1);
        Check.due("get(16)", x.get(16), -1);
        x.refresh();
        x.write(1, 15, 77L, -1);
        Check.due("what is known, not what is visible", x.get(15), 77);
        x.write(2, 15, 77L, -1);
        Check.due("a tombstone", x.get(15), 0);
        x.crash(0);
        Check.due("down", x.get(0), -4);
        Check.due("down before refused", x.get(99), -4);
    }

    private static void knownOfIds() {
        ShardEngine x = new ShardEngine();
        x.write(1, 3, 1L, -1);
        x.refresh();
        x.write(1, 3, 2L, -1);
        x.write(1, 4, 2L, -1);
        int[][] want = {{1, 1, 2, 1, 0}, {1, 2, 1, 0, -1}, {0, -1, 0, 0, -1}};
        for (int i = 0; i < 3; i++) {
            for (int what = 0; what < 5; what++) {
                Check.due("known(" + (3 + i) + ", " + what + ")", x.known(3 + i, what), want[i][what]);
            }
        }
        x.write(2, 3, 0L, -1);
        int[] tombstone = {2, 3, 3, 1, 0};
        for (int what = 0; what < 5; what++) {
            Check.due("tombstone " + what, x.known(3, what), tombstone[what]);
        }
        Check.due("what 5", x.known(3, 5), -1);
        Check.due("what -1", x.known(3, -1), -1);
        Check.due("id 16", x.known(16, 1), -1);
        Check.due("id -1", x.known(-1, 2), -1);
        Check.due("id -1", x.known(-1, 0), -1);
        x.crash(0);
        Check.due("down", x.known(3, 0), -4);
        Check.due("down before refused", x.known(3, 9), -4);
    }

    private static void refreshPoints() {
        ShardEngine x = new ShardEngine();
        Check.due("none", x.refresh(), 0);
        x.write(1, 1, 5L, -1);
        x.write(1, 2, 6L, -1);
        Check.due("not yet", x.info(10), 0);
        Check.due("two", x.refresh(), 2);
        x.write(2, 1, 0L, -1);
        x.write(1, 2, 9L, -1);
        Check.due("still two", x.info(10), 2);
        x.ask(3, 6, 6);
        Check.due("with the source of then", x.hit(0, 0), 2);
        Check.due("one", x.refresh(), 1);
        Check.due("with the source of now", x.hit(0, -1), 0);
        Check.due("seq at the point", x.known(2, 4), 3);
        Check.due("not visible", x.known(1, 3), 0);
        x.crash(0);
        Check.due("down", x.refresh(), -4);
    }

    private static void refreshForgets() {
        ShardEngine x = new ShardEngine();
        x.replica(2, 1, 0, 9, 0L);
        x.replica(2, 2, 2, 8, 0L);
        x.refresh();
        Check.due("up to CHECKPOINT", x.known(1, 0), 0);
        Check.due("its seq", x.known(1, 1), -1);
        Check.due("its version", x.known(1, 2), 0);
        Check.due("above it stays", x.known(2, 0), 2);
        Check.due("its seq", x.known(2, 1), 2);
        Check.due("its version", x.known(2, 2), 8);
        Check.due("so an older one is known as such", x.replica(1, 2, 1, 4, 5L), 2);
        Check.due("still a tombstone", x.known(2, 0), 2);
        x.refresh();
        Check.due("forgotten now", x.known(2, 0), 0);
        x.write(2, 0, 0L, -1);
        x.write(2, 15, 0L, -1);
        x.refresh();
        Check.due("the first id", x.known(0, 0), 0);
        Check.due("the last id", x.known(15, 0), 0);
        x.write(1, 1, 5L, -1);
        Check.due("the version begins anew", x.known(1, 2), 1);
        x.write(2, 1, 0L, -1);
        Check.due("write forgets nothing", x.known(1, 2), 2);
    }
}
