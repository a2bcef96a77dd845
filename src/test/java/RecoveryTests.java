/** Promises 11 and 18: recover, and what a commit knows already. */
final class RecoveryTests {
    private static final long SOURCE = Sources.source(3, 4, 5);

    private RecoveryTests() {
    }

    static void run() {
        Check.test("promise 11: recover", RecoveryTests::replaysAll);
        Check.test("promise 11: recover goes through all generations", RecoveryTests::allGenerations);
        Check.test("promise 11: recover begins with the commit", RecoveryTests::fromCommit);
        Check.test("promise 11: recover's refresh point", RecoveryTests::refreshPoint);
        Check.test("promise 11: recover with stop", RecoveryTests::stops);
        Check.test("promise 11: a torn tail is cut off", RecoveryTests::tornTail);
        Check.test("promise 11: broken behind the synced bytes", RecoveryTests::brokenUnsynced);
        Check.test("promise 11: corrupt", RecoveryTests::corrupt);
        Check.test("promise 11: corrupt in an older generation", RecoveryTests::corruptOlder);
        Check.test("promise 11: stop before and behind corrupt bytes", RecoveryTests::stopAndCorrupt);
        Check.test("promise 11: what is broken", RecoveryTests::whatIsBroken);
        Check.test("promise 11: a record may not reach beyond its generation", RecoveryTests::wholeInGeneration);
        Check.test("promise 11: SEQ above CHECKPOINT + 64", RecoveryTests::seqTooFar);
        Check.test("promise 11: what is processed already is not replayed", RecoveryTests::processedAlready);
        Check.test("promise 18: PERSISTED", RecoveryTests::persisted);
        Check.test("promise 18: what the commit knows stays", RecoveryTests::commitKnows);
        Check.test("promise 18: the commit's MAX stays", RecoveryTests::commitMax);
    }

    private static void replaysAll() {
        ShardEngine x = new ShardEngine();
        Check.due("up", x.recover(-1), -1);
        Check.due("up", x.recover(5), -1);
        x.write(1, 0, SOURCE, -1);
        x.write(2, 1, 0L, -1);
        x.replica(3, 0, 4, 0, 0L);
        x.replica(1, 2, 3, 7, 5L);
        x.crash(x.info(5));
        Check.due("four", x.recover(-1), 4);
        Check.due("up again", x.recover(-1), -1);
        Check.due("source", x.get(0), SOURCE);
        Check.due("tombstone", x.known(1, 0), 2);
        Check.due("version", x.known(2, 2), 7);
        Check.due("max", x.info(0), 4);
        Check.due("checkpoint", x.info(1), 1);
        Check.due("persisted", x.info(2), 1);
        Check.due("all synced", x.info(6), 19 + 11 + 8 + 19);
        Check.due("no record by it", x.info(5), 19 + 11 + 8 + 19);
        Check.due("seq 2 is not processed", x.replica(1, 2, 2, 1, 9L), 2);
        Check.due("seq 4 is", x.replica(1, 2, 4, 1, 9L), 0);
        Check.due("checkpoint", x.info(1), 4);
        x.crash(0);
        Check.due("the least stop", x.recover(Integer.MIN_VALUE), 4);
    }

    private static void allGenerations() {
        ShardEngine x = new ShardEngine();
        for (int i = 0; i < 4; i++) {
            x.write(1, i, i + 1L, -1);
            x.sync(true);
        }
        x.write(1, 0, 9L, -1);
        Check.due("generations", x.info(3), 4);
        x.crash(x.info(5) - x.info(6));
        Check.due("five", x.recover(-1), 5);
        for (int i = 0; i < 4; i++) {
            Check.due("get", x.get(i), i == 0 ? 9 : i + 1);
        }
        Check.due("generations", x.info(3), 4);
        Check.due("current", x.info(5), 38);
        Check.due("goes on in it", x.write(1, 1, 1L, -1), 5);
        Check.due("bytes", x.info(5), 57);
    }

    private static void fromCommit() {
        ShardEngine x = new ShardEngine();
        x.write(1, 0, SOURCE, -1);
        x.flush();
        x.write(1, 1, 2L, -1);
        x.sync(false);
        x.write(1, 0, 3L, -1);
        x.crash(0);
        Check.due("info 8", x.info(8), 0);
        Check.due("one", x.recover(0), -4);
        Check.due("one", x.recover(1), 1);
        Check.due("of the commit", x.get(0), SOURCE);
        Check.due("of the log", x.get(1), 2);
        Check.due("max", x.info(0), 1);
        Check.due("commit stays", x.info(9), 0);
        x.crash(0);
        Check.due("the same again", x.recover(-1), 1);
    }

    private static void refreshPoint() {
        ShardEngine x = new ShardEngine();
        x.write(1, 0, SOURCE, -1);
        x.write(1, 1, SOURCE, -1);
        x.write(2, 1, SOURCE, -1);
        x.refresh();
        Check.due("forgotten", x.known(1, 0), 0);
        x.sync(false);
        x.write(1, 2, SOURCE, -1);
        x.refresh();
        Check.due("visible", x.info(10), 2);
        x.crash(0);
        Check.due("down", x.info(10), 0);
        x.recover(-1);
        Check.due("visible", x.info(10), 1);
        Check.due("visible", x.known(0, 3), 1);
        Check.due("seq", x.known(0, 4), 0);
        Check.due("lost", x.known(2, 3), 0);
        Check.due("a tombstone is not visible", x.known(1, 3), 0);
        Check.due("recover forgets no tombstone", x.known(1, 0), 2);
        Check.due("its seq", x.known(1, 1), 2);
        x.ask(0, 0, 0);
        Check.due("found", x.hit(0, -1), 1);
    }

    private static void stops() {
        ShardEngine x = new ShardEngine();
        for (int i = 0; i < 3; i++) {
            x.write(1, i, SOURCE, -1);
        }
        x.sync(false);
        x.write(1, 5, SOURCE, -1);
        x.crash(3);
        for (int stop = 0; stop < 3; stop++) {
            Check.due("stop " + stop, x.recover(stop), -4);
            Check.due("down", x.info(7), 1);
            Check.due("bytes stay", x.info(5), 60);
            Check.due("synced stay", x.info(6), 57);
        }
        Check.due("stop 3", x.recover(3), 3);
        Check.due("cut off", x.info(5), 57);
        Check.due("known", x.get(2), SOURCE);
        ShardEngine y = new ShardEngine();
        y.crash(0);
        Check.due("nothing to process", y.recover(0), 0);
        ShardEngine z = new ShardEngine();
        z.write(1, 0, SOURCE, -1);
        z.write(1, 1, SOURCE, -1);
        z.replica(3, 0, 9, 0, 0L);
        z.flush();
        z.crash(0);
        Check.due("only those above the commit count", z.recover(0), -4);
        Check.due("only those above the commit count", z.recover(1), 1);
    }

    private static void tornTail() {
        for (int keep = 0; keep <= 30; keep++) {
            ShardEngine x = new ShardEngine();
            x.write(1, 0, SOURCE, -1);
            x.sync(false);
            x.write(2, 0, 0L, -1);
            x.write(1, 1, 5L, -1);
            Check.due("lost", x.crash(keep), 30 - keep);
            int whole = keep == 30 ? 2 : keep >= 11 ? 1 : 0;
            Check.due("keep " + keep, x.recover(-1), 1 + whole);
            Check.due("bytes", x.info(5), whole == 2 ? 49 : whole == 1 ? 30 : 19);
            Check.due("synced", x.info(6), x.info(5));
            Check.due("max", x.info(0), whole);
            Check.due("the next", x.write(1, 7, 1L, -1), whole + 1);
        }
    }

    private static void brokenUnsynced() {
        ShardEngine x = new ShardEngine();
        x.write(1, 0, SOURCE, -1);
        x.sync(false);
        x.write(1, 1, SOURCE, -1);
        x.write(1, 2, SOURCE, -1);
        x.write(1, 3, SOURCE, -1);
        x.flip(0, 38 + 9, 4);
        x.crash(57);
        Check.due("two", x.recover(-1), 2);
        Check.due("before it", x.get(1), SOURCE);
        Check.due("the broken one", x.known(2, 0), 0);
        Check.due("behind it", x.known(3, 0), 0);
        Check.due("bytes", x.info(5), 38);
        x.write(1, 2, 8L, -1);
        x.crash(19);
        Check.due("three", x.recover(-1), 3);
        Check.due("the new one", x.get(2), 8);
        Check.due("its seq", x.known(2, 1), 2);
    }

    private static void corrupt() {
        ShardEngine x = new ShardEngine();
        x.write(1, 0, SOURCE, -1);
        x.write(1, 1, SOURCE, -1);
        x.sync(false);
        x.write(1, 2, SOURCE, -1);
        for (int at = 19; at < 38; at++) {
            x.flip(0, at, 32);
            if (at == 19) {
                x.crash(9);
            }
            Check.due("byte " + at, x.recover(-1), -5);
            Check.due("down", x.info(7), 1);
            Check.due("bytes stay", x.info(5), 47);
            Check.due("synced stay", x.info(6), 38);
            Check.due("down", x.get(0), -4);
            x.flip(0, at, 32);
        }
        Check.due("sound again", x.recover(-1), 2);
    }

    private static void corruptOlder() {
        ShardEngine x = new ShardEngine();
        x.write(1, 0, SOURCE, -1);
        x.write(1, 1, SOURCE, -1);
        x.sync(true);
        x.write(1, 2, SOURCE, -1);
        x.flip(0, 37, 1);
        x.crash(19);
        Check.due("corrupt, for all of it is synced", x.recover(-1), -5);
        x.flip(0, 37, 1);
        x.flip(1, 0, 1);
        Check.due("the current one is not", x.recover(-1), 2);
        Check.due("bytes", x.info(5), 0);
        ShardEngine y = new ShardEngine();
        y.replica(3, 0, 5, 0, 0L);
        y.write(1, 0, SOURCE, -1);
        y.flush();
        y.flip(0, 10, 1);
        y.crash(0);
        Check.due("after a flush too", y.recover(-1), -5);
    }

    private static void stopAndCorrupt() {
        ShardEngine x = new ShardEngine();
        for (int i = 0; i < 3; i++) {
            x.write(1, i, SOURCE, -1);
        }
        x.sync(false);
        x.flip(0, 38, 1);
        x.crash(0);
        Check.due("stop before it", x.recover(0), -4);
        Check.due("stop before it", x.recover(1), -4);
        Check.due("stop behind it", x.recover(2), -5);
        Check.due("no stop", x.recover(-1), -5);
        x.flip(0, 38, 1);
        Check.due("sound", x.recover(3), 3);
    }

    /** What recovery answers to one synced record, changed so that its checksum stays right. */
    private static int afterForging(int kind, int offset, int value) {
        ShardEngine x = new ShardEngine();
        x.replica(kind, 1, 0, 1, SOURCE);
        x.sync(false);
        Sources.forge(x, 0, 0, offset, value);
        x.crash(0);
        return x.recover(-1);
    }

    private static void whatIsBroken() {
        Check.due("id 15", afterForging(1, 4, 15), 1);
        Check.due("id 16", afterForging(1, 4, 16), -5);
        Check.due("id 255", afterForging(2, 4, 255), -5);
        Check.due("kind 0", afterForging(1, 1, 0), -5);
        Check.due("kind 4", afterForging(3, 1, 4), -5);
        Check.due("INDEX as DELETE", afterForging(1, 1, 2), -5);
        Check.due("DELETE as INDEX", afterForging(2, 1, 1), -5);
        Check.due("NOTHING as DELETE", afterForging(3, 1, 2), -5);
        Check.due("INDEX as NOTHING", afterForging(1, 1, 3), -5);
        Check.due("version 0", afterForging(1, 5, 0), 1);
        Check.due("version above 60000", afterForging(1, 6, 255), 1);
        Check.due("seq 63", afterForging(3, 2, 63), 1);
        Check.due("seq 64", afterForging(3, 2, 64), -5);
        Check.due("seq 256", afterForging(1, 3, 1), -5);
        ShardEngine x = new ShardEngine();
        x.replica(1, 1, 0, 1, SOURCE);
        x.sync(false);
        x.flip(0, 0, 14 ^ 6);
        x.flip(0, 1, 3);
        Sources.seal(x, 0, 0);
        x.crash(0);
        Check.due("a whole DELETE, but then broken bytes", x.recover(-1), -5);
        Check.due("it comes first", x.recover(0), -4);
        ShardEngine y = new ShardEngine();
        y.replica(1, 1, 0, 1, SOURCE);
        y.replica(1, 1, 1, 1, SOURCE);
        Sources.forge(y, 0, 19, 4, 16);
        y.crash(38);
        Check.due("id 16 behind synced bytes", y.recover(-1), 1);
        Check.due("cut off", y.info(5), 19);
    }

    private static void wholeInGeneration() {
        ShardEngine x = new ShardEngine();
        x.write(2, 0, 0L, -1);
        x.sync(true);
        x.write(2, 1, 0L, -1);
        x.flip(0, 0, 6 ^ 14);
        x.flip(0, 1, 3);
        x.crash(11);
        Check.due("not whole", x.recover(-1), -5);
        ShardEngine y = new ShardEngine();
        y.write(2, 0, 0L, -1);
        y.sync(false);
        y.replica(3, 0, 1, 0, 0L);
        y.flip(0, 0, 6 ^ 14);
        y.flip(0, 1, 3);
        Sources.seal(y, 0, 0);
        y.crash(8);
        Check.due("begins within synced bytes, ends behind them", y.recover(-1), 1);
        Check.due("an INDEX now", y.known(0, 0), 1);
        Check.due("bytes", y.info(5), 19);
        ShardEngine z = new ShardEngine();
        z.write(2, 0, 0L, -1);
        z.sync(false);
        z.replica(3, 0, 1, 0, 0L);
        z.flip(0, 0, 6 ^ 14);
        z.flip(0, 1, 3);
        Sources.seal(z, 0, 0);
        z.crash(7);
        Check.due("begins within synced bytes, not whole", z.recover(-1), -5);
    }

    private static void seqTooFar() {
        ShardEngine x = new ShardEngine();
        x.replica(3, 0, 0, 0, 0L);
        x.replica(3, 0, 10, 0, 0L);
        x.sync(false);
        Sources.forge(x, 0, 8, 2, 64);
        x.crash(0);
        Check.due("CHECKPOINT + 64 as it is then", x.recover(-1), 2);
        Check.due("max", x.info(0), 64);
        x.crash(0);
        Sources.forge(x, 0, 8, 2, 65);
        Check.due("one more", x.recover(-1), -5);
        ShardEngine y = new ShardEngine();
        y.replica(3, 0, 0, 0, 0L);
        y.replica(3, 0, 10, 0, 0L);
        Sources.forge(y, 0, 8, 2, 65);
        y.crash(16);
        Check.due("behind synced bytes it is cut off", y.recover(-1), 1);
        Check.due("bytes", y.info(5), 8);
    }

    private static void processedAlready() {
        ShardEngine x = new ShardEngine();
        x.replica(1, 1, 0, 1, 5L);
        x.replica(1, 2, 1, 1, 6L);
        x.sync(false);
        Sources.forge(x, 0, 19, 2, 0);
        x.crash(0);
        Check.due("the second has the SEQ of the first", x.recover(-1), 1);
        Check.due("so it is not known", x.known(2, 0), 0);
        Check.due("its bytes stay", x.info(5), 38);
        Check.due("checkpoint", x.info(1), 0);
        ShardEngine y = new ShardEngine();
        y.replica(1, 1, 5, 1, 5L);
        y.sync(true);
        y.replica(1, 1, 4, 1, 6L);
        y.crash(19);
        Check.due("two", y.recover(-1), 2);
        Check.due("the greatest SEQ is known", y.get(1), 5);
    }

    private static void persisted() {
        ShardEngine x = new ShardEngine();
        x.write(1, 0, 1L, -1);
        x.sync(true);
        Check.due("as the sync left it", x.info(2), 0);
        x.write(1, 0, 1L, -1);
        Check.due("as the sync left it", x.info(2), 0);
        x.flush();
        Check.due("flush", x.info(2), 1);
        x.write(1, 0, 1L, -1);
        x.crash(19);
        Check.due("down", x.info(2), -1);
        x.recover(-1);
        Check.due("recover", x.info(2), 2);
        x.write(1, 0, 1L, -1);
        x.crash(0);
        x.recover(-1);
        Check.due("recover after a loss", x.info(2), 2);
    }

    private static void commitKnows() {
        ShardEngine x = new ShardEngine();
        x.replica(1, 3, 5, 9, SOURCE);
        x.flush();
        Sources.put(x, 0, 7, 77);
        Sources.put(x, 0, 5, 2);
        Sources.seal(x, 0, 0);
        x.crash(0);
        Check.due("processed all the same", x.recover(-1), 1);
        Check.due("the source of the commit", x.get(3), SOURCE);
        Check.due("its version", x.known(3, 2), 9);
        Check.due("seq 5 is processed", x.replica(1, 3, 5, 1, 1L), 0);
        x.crash(0);
        Sources.forge(x, 0, 0, 4, 2);
        Check.due("of another id", x.recover(-1), 1);
        Check.due("that is known by it", x.known(2, 1), 5);
        Check.due("and the commit's stays", x.known(3, 1), 5);
        ShardEngine y = new ShardEngine();
        y.replica(2, 3, 5, 9, SOURCE);
        y.replica(1, 3, 3, 8, SOURCE);
        y.flush();
        y.crash(0);
        Check.due("an older record", y.recover(-1), 2);
        Check.due("the tombstone of the commit", y.known(3, 0), 2);
        y.replica(1, 3, 6, 2, 44L);
        y.sync(false);
        Sources.recovered(y);
        Check.due("a newer record", y.get(3), 44);
    }

    private static void commitMax() {
        ShardEngine x = new ShardEngine();
        x.replica(1, 3, 5, 9, SOURCE);
        x.flush();
        Sources.forge(x, 0, 0, 2, 2);
        x.crash(0);
        Check.due("recover", x.recover(-1), 1);
        Check.due("max", x.info(0), 5);
        Check.due("seq 0 1 3 4 and 5 itself", x.fill(), 5);
        Check.due("checkpoint", x.info(1), 5);
        Check.due("the next SEQ", x.write(1, 4, 1L, -1), 6);
        Check.due("the commit's", x.known(3, 1), 5);
    }
}
