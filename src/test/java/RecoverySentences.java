/** Sentences of the terms on DOWN and RECOVERY, and of promises 11 and 18: recover, order and limits. */
final class RecoverySentences {
    private static final long SOURCE = Sources.source(3, 4, 5);
    private static final String TERMS = "terms";

    private RecoverySentences() {
    }

    static void run() {
        recovery();
        broken();
        corruptAndCut();
        recovers();
        limits();
    }

    private static void recovery() {
        Sentence.test(TERMS, "DOWN is the shard from a crash() to a recover() that succeeds.",
            "a crash that is REFUSED, recoveries that fail", RecoverySentences::down);
        Sentence.test(TERMS, "RECOVERY begins with the commit: what it knows,",
            "a document, a tombstone, VERSIONs", RecoverySentences::beginsWithCommit);
        Sentence.test(TERMS, "all SEQ up to its CHECKPOINT processed,",
            "at its CHECKPOINT, above it", RecoverySentences::committedSeqs);
        Sentence.test(TERMS, "its MAX.", "no record has it, a greater one comes", RecoverySentences::committedMax);
        Sentence.test(TERMS, "Then it goes through all records of the log, from the oldest generation on.",
            "four generations, empty ones, the order of them", RecoverySentences::goesThroughAll);
        Sentence.test(TERMS, "Others are REPLAYED: if their SEQ is not processed yet, they are processed (without a "
            + "record).", "twice the same SEQ, an older one, no byte more", RecoverySentences::replayed);
    }

    private static void broken() {
        Sentence.test(TERMS, "One is BROKEN if it is not whole within its generation,",
            "each kind, each number of bytes", RecoverySentences::notWhole);
        Sentence.test(TERMS, "One is BROKEN if it is not whole within its generation,",
            "one that would go on in the next generation", RecoverySentences::notWholeInOlder);
        Sentence.test(TERMS, "L does not fit the kind", "each L to 20 for each kind", RecoverySentences::lengthUnfit);
        Sentence.test(TERMS, "(or there is no such kind),", "0, 4, 255 and others", RecoverySentences::noSuchKind);
        Sentence.test(TERMS, "the CRC is wrong,", "each bit of a record", RecoverySentences::wrongCrc);
        Sentence.test(TERMS, "the id is not 0 .. 15,", "0, 15, 16, 255", RecoverySentences::wrongId);
        Sentence.test(TERMS, "or SEQ is above CHECKPOINT + 64.",
            "64 and 65 above, 255 and 256, as it is then", RecoverySentences::seqTooFar);
        Sentence.test(TERMS, "One is BROKEN", "not by a VERSION of 0 or above 60000", RecoverySentences::anyVersion);
    }

    private static void corruptAndCut() {
        Sentence.test(TERMS, "A broken record that begins within synced bytes: the log is CORRUPT,",
            "the first one, the last one, in an older generation", RecoverySentences::corrupt);
        Sentence.test(TERMS, "A broken record that begins within synced bytes: the log is CORRUPT,",
            "it ends behind them", RecoverySentences::corruptOverTheEdge);
        Sentence.test(TERMS, "nothing else is done.",
            "what is cut off, synced, processed", RecoverySentences::corruptUndone);
        Sentence.test(TERMS, "One that begins behind them: it and all behind it is cut off,",
            "at the first byte behind, whole ones behind it", RecoverySentences::cutOff);
        Sentence.test(TERMS, "if recovery succeeds.", "stopped, CORRUPT elsewhere", RecoverySentences::cutOffOnlyThen);
    }

    private static void recovers() {
        String place = "promise 11";
        Sentence.test(place, "RECOVERY; all that stays of the log is synced,",
            "bytes that were kept", RecoverySentences::staysSynced);
        Sentence.test(place, "and the refresh point is what is known then:",
            "none, a tombstone, a document", RecoverySentences::refreshPoint);
        Sentence.test(place, "how many operations were processed.",
            "0, those above the commit, NOTHING too", RecoverySentences::howMany);
        Sentence.test(place, "REFUSED if the shard is not DOWN.", "new, any stop, twice", RecoverySentences::refusedUp);
        Sentence.test(place, "If stop is 0 or more, and more than stop operations are to be processed, the machine "
            + "crashes again: DOWN, and nothing has changed",
            "-1, 0, one less, as many, the greatest int", RecoverySentences::stops);
        Sentence.test(place, "(also if the log is CORRUPT behind that).",
            "CORRUPT before, at and behind the stop", RecoverySentences::stopsBeforeCorrupt);
        Sentence.test(place, "CORRUPT: it stays DOWN.", "until it is mended", RecoverySentences::corruptStaysDown);
    }

    private static void limits() {
        String place = "promise 18";
        Sentence.test(place, "PERSISTED is the CHECKPOINT of the latest sync(), flush() or recover();",
            "each of them, a lesser one after a loss", RecoverySentences::persistedOfLatest);
        Sentence.test(place, "a generation that begins changes nothing of it.",
            "by sync and by flush", RecoverySentences::persistedStays);
        Sentence.test(place, "In recovery a record whose SEQ is that which is known of its id by the commit changes "
            + "nothing of what is known of it, whatever the record holds",
            "source, VERSION, kind; one SEQ less, one more", RecoverySentences::committedRecord);
        Sentence.test(place, "(its SEQ is processed all the same).",
            "it counts, it is processed then", RecoverySentences::committedRecordProcessed);
    }

    /** A shard with one synced record (kind, id 1, SEQ 0, VERSION 1), one byte changed, its checksum made right. */
    private static ShardEngine forged(int kind, int offset, int value) {
        ShardEngine x = new ShardEngine();
        x.replica(kind, 1, 0, 1, SOURCE);
        x.sync(false);
        Sources.forge(x, 0, 0, offset, value);
        x.crash(0);
        return x;
    }

    private static void down() {
        ShardEngine x = new ShardEngine();
        x.write(1, 0, SOURCE, -1);
        x.sync(false);
        x.crash(1);
        Check.due("a crash that is REFUSED", x.get(0), SOURCE);
        x.crash(0);
        Check.due("after a crash", x.get(0), -4);
        Check.due("stopped", x.recover(0), -4);
        Check.due("still", x.get(0), -4);
        x.flip(0, 3, 1);
        Check.due("CORRUPT", x.recover(-1), -5);
        Check.due("still", x.get(0), -4);
        x.flip(0, 3, 1);
        Check.due("succeeds", x.recover(-1), 1);
        Check.due("up", x.get(0), SOURCE);
    }

    private static void beginsWithCommit() {
        ShardEngine x = new ShardEngine();
        x.replica(1, 0, 0, 60000, SOURCE);
        x.replica(2, 15, 1, 500, 0L);
        x.flush();
        Check.due("the log is empty", x.info(5), 0);
        x.crash(0);
        Check.due("none to replay", x.recover(0), 0);
        Check.due("a document", x.get(0), SOURCE);
        Check.due("its VERSION", x.known(0, 2), 60000);
        Check.due("a tombstone", x.known(15, 0), 2);
        Check.due("its SEQ", x.known(15, 1), 1);
        Check.due("its VERSION", x.known(15, 2), 500);
        Check.due("nothing", x.known(1, 0), 0);
        Check.due("CHECKPOINT", x.info(1), 1);
        x.write(1, 0, 8L, -1);
        Sources.recovered(x);
        Check.due("the commit again", x.get(0), SOURCE);
    }

    private static void committedSeqs() {
        ShardEngine x = new ShardEngine();
        x.write(1, 0, SOURCE, -1);
        x.write(1, 1, SOURCE, -1);
        x.replica(1, 2, 3, 1, SOURCE);
        Check.due("the records stay", x.flush(), 0);
        Sources.forge(x, 0, 0, 4, 7);
        Sources.forge(x, 0, 19, 4, 8);
        x.crash(0);
        Check.due("only SEQ 3", x.recover(-1), 1);
        Check.due("a record below its CHECKPOINT", x.known(7, 0), 0);
        Check.due("a record at its CHECKPOINT", x.known(8, 0), 0);
        Check.due("SEQ 1 is processed", x.replica(3, 0, 1, 0, 0L), 0);
        Check.due("SEQ 2 is not", x.replica(3, 0, 2, 0, 0L), 2);
        Check.due("CHECKPOINT", x.info(1), 3);
    }

    private static void committedMax() {
        ShardEngine x = new ShardEngine();
        x.replica(1, 0, 9, 1, SOURCE);
        x.flush();
        Sources.forge(x, 0, 0, 2, 4);
        x.crash(0);
        x.recover(-1);
        Check.due("no record has it", x.info(0), 9);
        Check.due("the next SEQ", x.write(1, 1, 1L, -1), 10);
        x.sync(false);
        Sources.recovered(x);
        Check.due("a greater one", x.info(0), 10);
        Sources.forge(x, 1, 0, 2, 5);
        Sources.recovered(x);
        Check.due("the commit's again", x.info(0), 9);
        Check.due("4 and 5 are processed, 9 itself is not", x.fill(), 8);
        Check.due("CHECKPOINT", x.info(1), 9);
    }

    private static void goesThroughAll() {
        ShardEngine x = new ShardEngine();
        x.flush();
        x.replica(1, 0, 1, 1, 11L);
        x.sync(true);
        x.sync(true);
        x.replica(1, 1, 3, 1, 33L);
        x.sync(true);
        x.replica(1, 2, 5, 1, 55L);
        x.crash(19);
        Check.due("all", x.recover(-1), 3);
        for (int id = 0; id < 3; id++) {
            Check.due("source", x.get(id), 11 + 22 * id);
        }
        ShardEngine y = new ShardEngine();
        y.write(1, 0, 1L, -1);
        y.sync(true);
        y.write(1, 0, 2L, -1);
        y.sync(true);
        y.write(1, 0, 3L, -1);
        Sources.forge(y, 1, 0, 2, 0);
        Sources.forge(y, 2, 0, 2, 0);
        y.crash(19);
        Check.due("all have SEQ 0", y.recover(-1), 1);
        Check.due("the oldest generation's comes first", y.get(0), 1);
    }

    private static void replayed() {
        ShardEngine x = new ShardEngine();
        x.replica(1, 0, 4, 9, 44L);
        x.replica(1, 0, 2, 8, 22L);
        x.replica(1, 1, 0, 7, 11L);
        x.replica(1, 1, 1, 7, 12L);
        Sources.forge(x, 0, 57, 2, 0);
        x.crash(76);
        Check.due("SEQ 0 is there twice", x.recover(-1), 3);
        Check.due("its first record", x.get(1), 11);
        Check.due("the greatest SEQ", x.get(0), 44);
        Check.due("its VERSION", x.known(0, 2), 9);
        Check.due("MAX", x.info(0), 4);
        Check.due("CHECKPOINT", x.info(1), 0);
        Check.due("without a record", x.info(5), 76);
    }

    private static void notWhole() {
        int[] sizes = {19, 11, 8};
        for (int kind = 1; kind <= 3; kind++) {
            for (int keep = 0; keep <= sizes[kind - 1]; keep++) {
                ShardEngine x = new ShardEngine();
                x.replica(kind, 1, 0, 1, SOURCE);
                x.crash(keep);
                int whole = keep == sizes[kind - 1] ? 1 : 0;
                Check.due("kind " + kind + ", bytes " + keep, x.recover(-1), whole);
                Check.due("what stays", x.info(5), whole * keep);
            }
        }
    }

    private static void notWholeInOlder() {
        ShardEngine x = new ShardEngine();
        x.replica(3, 0, 0, 0, 0L);
        x.sync(true);
        x.replica(3, 0, 1, 0, 0L);
        x.sync(false);
        Sources.put(x, 0, 0, 6);
        Sources.put(x, 0, 1, 2);
        x.crash(0);
        Check.due("8 bytes are no DELETE", x.recover(-1), -5);
        ShardEngine y = new ShardEngine();
        y.write(2, 0, 0L, -1);
        y.write(2, 1, 0L, -1);
        y.sync(true);
        Sources.put(y, 0, 11, 14);
        Sources.put(y, 0, 12, 1);
        y.crash(0);
        Check.due("11 bytes are no INDEX", y.recover(-1), -5);
    }

    private static void lengthUnfit() {
        int[] lengths = {14, 6, 3};
        for (int kind = 1; kind <= 3; kind++) {
            for (int length = 0; length <= 20; length++) {
                ShardEngine x = new ShardEngine();
                x.replica(kind, 1, 0, 1, SOURCE);
                x.replica(1, 2, 1, 1, SOURCE);
                x.replica(1, 3, 2, 1, SOURCE);
                x.sync(false);
                Sources.forge(x, 0, 0, 0, length);
                x.crash(0);
                int want = length == lengths[kind - 1] ? 3 : -5;
                Check.due("kind " + kind + ", L " + length, x.recover(-1), want);
            }
        }
    }

    private static void noSuchKind() {
        int[] kinds = {0, 4, 5, 17, 127, 128, 129, 130, 131, 254, 255};
        for (int kind : kinds) {
            for (int was = 1; was <= 3; was++) {
                Check.due("kind " + kind, forged(was, 1, kind).recover(-1), -5);
            }
        }
        for (int was = 1; was <= 3; was++) {
            Check.due("its own kind", forged(was, 1, was).recover(-1), 1);
            Check.due("another one that has another L", forged(was, 1, was % 3 + 1).recover(-1), -5);
        }
    }

    private static void wrongCrc() {
        int[] sizes = {19, 11, 8};
        for (int kind = 1; kind <= 3; kind++) {
            ShardEngine x = forged(kind, 1, kind);
            for (int bit = 0; bit < 8 * sizes[kind - 1]; bit++) {
                x.flip(0, bit / 8, 1 << bit % 8);
                Check.due("kind " + kind + ", bit " + bit, x.recover(-1), -5);
                x.flip(0, bit / 8, 1 << bit % 8);
            }
            Check.due("as it was", x.recover(-1), 1);
        }
    }

    private static void wrongId() {
        int[] ids = {0, 15, 16, 17, 32, 128, 255};
        for (int id : ids) {
            for (int kind = 1; kind <= 2; kind++) {
                ShardEngine x = forged(kind, 4, id);
                Check.due("id " + id, x.recover(-1), id <= 15 ? 1 : -5);
            }
        }
        ShardEngine y = forged(2, 4, 15);
        y.recover(-1);
        Check.due("known", y.known(15, 0), 2);
        ShardEngine z = new ShardEngine();
        z.write(1, 0, SOURCE, -1);
        z.write(1, 0, SOURCE, -1);
        Sources.forge(z, 0, 19, 4, 16);
        z.crash(38);
        Check.due("behind synced bytes it is cut off", z.recover(-1), 1);
    }

    private static void seqTooFar() {
        int[] seqs = {0, 63, 64, 65, 127, 128, 255};
        for (int seq : seqs) {
            Check.due("SEQ " + seq, forged(3, 2, seq).recover(-1), seq <= 63 ? 1 : -5);
        }
        Check.due("SEQ 256", forged(1, 3, 1).recover(-1), -5);
        Check.due("SEQ 65280", forged(1, 3, 255).recover(-1), -5);
        for (int seq = 64; seq <= 65; seq++) {
            ShardEngine x = new ShardEngine();
            x.replica(3, 0, 0, 0, 0L);
            x.replica(3, 0, 9, 0, 0L);
            Sources.forge(x, 0, 8, 2, seq);
            x.crash(16);
            Check.due("CHECKPOINT is 0 then", x.recover(-1), seq == 64 ? 2 : 1);
            Check.due("MAX", x.info(0), seq == 64 ? 64 : 0);
            Check.due("what stays", x.info(5), seq == 64 ? 16 : 8);
        }
        ShardEngine y = new ShardEngine();
        y.replica(3, 0, 9, 0, 0L);
        y.replica(3, 0, 0, 0, 0L);
        y.sync(false);
        Sources.forge(y, 0, 0, 2, 64);
        y.crash(0);
        Check.due("CHECKPOINT is not 0 yet", y.recover(-1), -5);
    }

    private static void anyVersion() {
        ShardEngine x = forged(1, 5, 0);
        Check.due("VERSION 0", x.recover(-1), 1);
        Check.due("known", x.known(1, 2), 0);
        ShardEngine y = forged(2, 6, 255);
        Check.due("VERSION 65281", y.recover(-1), 1);
        Check.due("known", y.known(1, 2), 65281);
    }

    /** Three records of 8 bytes: one in generation 0, two in generation 1; so many bytes of it are synced. */
    private static ShardEngine threeRecords(int synced) {
        ShardEngine x = new ShardEngine();
        x.replica(3, 0, 0, 0, 0L);
        x.sync(true);
        for (int seq = 1; seq <= 2; seq++) {
            if (synced == 8 * (seq - 1)) {
                x.sync(false);
            }
            x.replica(3, 0, seq, 0, 0L);
        }
        if (synced == 16) {
            x.sync(false);
        }
        Check.due("synced", x.info(6), synced);
        return x;
    }

    private static void corrupt() {
        int[][] wrong = {{0, 0}, {0, 7}, {1, 0}, {1, 7}, {1, 8}, {1, 15}};
        for (int[] w : wrong) {
            for (int synced = 0; synced <= 16; synced += 8) {
                ShardEngine x = threeRecords(synced);
                x.flip(w[0], w[1], 64);
                x.crash(16 - synced);
                boolean within = w[0] == 0 || w[1] < synced;
                int before = 1 + w[1] / 8;
                Check.due("byte " + w[0] + ":" + w[1] + ", synced " + synced, x.recover(-1), within ? -5 : before);
            }
        }
    }

    private static void corruptOverTheEdge() {
        for (int keep = 2; keep <= 3; keep++) {
            ShardEngine x = new ShardEngine();
            x.replica(3, 0, 0, 0, 0L);
            x.sync(false);
            x.replica(3, 0, 1, 0, 0L);
            Sources.put(x, 0, 0, 6);
            Sources.put(x, 0, 1, 2);
            Sources.put(x, 0, 4, 5);
            Sources.seal(x, 0, 0);
            x.crash(keep);
            Check.due("a DELETE with " + keep + " bytes behind them", x.recover(-1), keep == 3 ? 1 : -5);
            Check.due("bytes", x.info(5), 8 + keep);
        }
    }

    private static void corruptUndone() {
        ShardEngine x = threeRecords(8);
        x.flip(1, 3, 9);
        x.crash(5);
        Check.due("corrupt", x.recover(-1), -5);
        Check.due("not cut off", x.info(5), 13);
        Check.due("not synced", x.info(6), 8);
        Check.due("nothing processed", x.info(0), -1);
        Check.due("nothing committed", x.info(9), -1);
        Check.due("the same again", x.recover(-1), -5);
        x.flip(1, 3, 9);
        Check.due("from the beginning", x.recover(1), -4);
        Check.due("from the beginning", x.recover(2), 2);
        Check.due("now it is cut off", x.info(5), 8);
    }

    private static void cutOff() {
        ShardEngine x = new ShardEngine();
        x.write(1, 0, SOURCE, -1);
        x.sync(false);
        x.write(2, 1, 0L, -1);
        x.write(2, 2, 0L, -1);
        x.write(1, 3, SOURCE, -1);
        x.flip(0, 19, 1);
        x.crash(41);
        Check.due("at the first byte behind", x.recover(-1), 1);
        Check.due("bytes", x.info(5), 19);
        Check.due("gone", x.flip(0, 19, 0), -1);
        Check.due("whole ones behind it", x.known(2, 0) + x.known(3, 0), 0);
        Check.due("their SEQ come again", x.write(2, 5, 0L, -1), 1);
        x.write(2, 6, 0L, -1);
        x.flip(0, 40, 1);
        x.crash(22);
        Check.due("the last one", x.recover(-1), 2);
        Check.due("bytes", x.info(5), 30);
        ShardEngine y = new ShardEngine();
        y.replica(3, 0, 0, 0, 0L);
        y.crash(7);
        Check.due("all that there is", y.recover(-1), 0);
        Check.due("bytes", y.info(5), 0);
    }

    private static void cutOffOnlyThen() {
        ShardEngine x = threeRecords(8);
        x.crash(5);
        for (int stop = 0; stop <= 1; stop++) {
            Check.due("stopped", x.recover(stop), -4);
            Check.due("not cut off", x.info(5), 13);
        }
        x.flip(0, 4, 1);
        Check.due("CORRUPT in the older generation", x.recover(-1), -5);
        Check.due("not cut off", x.info(5), 13);
        x.flip(0, 4, 1);
        Check.due("as many as it takes", x.recover(2), 2);
        Check.due("cut off", x.info(5), 8);
    }

    private static void staysSynced() {
        ShardEngine x = new ShardEngine();
        x.write(1, 0, SOURCE, -1);
        x.write(1, 1, SOURCE, -1);
        x.crash(20);
        Check.due("none before", x.info(6), 0);
        x.recover(-1);
        Check.due("synced", x.info(6), 19);
        Check.due("bytes", x.info(5), 19);
        Check.due("none to lose", x.crash(1), -1);
        Check.due("none to lose", x.crash(0), 0);
        Check.due("still there", x.recover(-1), 1);
    }

    private static void refreshPoint() {
        ShardEngine x = new ShardEngine();
        x.crash(0);
        x.recover(-1);
        Check.due("none", x.info(10), 0);
        x.write(1, 0, SOURCE, -1);
        x.write(1, 15, SOURCE, -1);
        x.write(2, 15, SOURCE, -1);
        x.ask(0, 0, 0);
        x.crash(49);
        x.recover(-1);
        Check.due("without a refresh", x.info(10), 1);
        Check.due("found", x.hit(0, 0), 0);
        Check.due("its SEQ", x.known(0, 4), 0);
        Check.due("a tombstone is not", x.known(15, 3), 0);
        Check.due("and is not forgotten, though up to CHECKPOINT", x.known(15, 0), 2);
    }

    private static void howMany() {
        ShardEngine x = new ShardEngine();
        x.crash(0);
        Check.due("none", x.recover(-1), 0);
        x.write(1, 0, SOURCE, -1);
        x.write(2, 0, SOURCE, -1);
        x.replica(3, 0, 3, 0, 0L);
        x.sync(false);
        x.crash(0);
        Check.due("each kind", x.recover(-1), 3);
        x.crash(0);
        Check.due("each time", x.recover(-1), 3);
        x.flush();
        x.crash(0);
        Check.due("those above the commit's CHECKPOINT", x.recover(-1), 1);
        x.fill();
        x.flush();
        x.crash(0);
        Check.due("none any more", x.recover(-1), 0);
    }

    private static void refusedUp() {
        ShardEngine x = new ShardEngine();
        int[] stops = {-1, 0, 1, Integer.MIN_VALUE, Integer.MAX_VALUE};
        for (int stop : stops) {
            Check.due("new", x.recover(stop), -1);
        }
        x.write(1, 0, SOURCE, -1);
        Check.due("up", x.recover(-1), -1);
        x.crash(19);
        Check.due("DOWN", x.recover(-1), 1);
        for (int stop : stops) {
            Check.due("up again", x.recover(stop), -1);
        }
    }

    private static void stops() {
        ShardEngine x = new ShardEngine();
        for (int i = 0; i < 3; i++) {
            x.write(1, i, SOURCE, -1);
        }
        x.flush();
        for (int i = 0; i < 3; i++) {
            x.write(1, i, 9L, -1);
        }
        x.sync(false);
        x.write(1, 5, SOURCE, -1);
        x.crash(3);
        for (int stop = 0; stop <= 2; stop++) {
            Check.due("stop " + stop, x.recover(stop), -4);
            int[] want = {-1, -1, -1, 1, 1, 60, 57, 1, 2, 2, 0};
            for (int what = 0; what < want.length; what++) {
                Check.due("info(" + what + ")", x.info(what), want[what]);
            }
        }
        Check.due("as many", x.recover(3), 3);
        x.crash(0);
        Check.due("the greatest int", x.recover(Integer.MAX_VALUE), 3);
        x.crash(0);
        Check.due("-1", x.recover(-1), 3);
        x.crash(0);
        Check.due("the least int", x.recover(Integer.MIN_VALUE), 3);
        ShardEngine y = new ShardEngine();
        y.crash(0);
        Check.due("none to process", y.recover(0), 0);
    }

    private static void stopsBeforeCorrupt() {
        ShardEngine x = threeRecords(16);
        x.flip(1, 12, 1);
        x.crash(0);
        Check.due("0, corrupt behind 2", x.recover(0), -4);
        Check.due("1, corrupt behind 2", x.recover(1), -4);
        Check.due("2, corrupt behind 2", x.recover(2), -5);
        Check.due("3, corrupt behind 2", x.recover(3), -5);
        x.flip(0, 0, 1);
        Check.due("0, corrupt at the first", x.recover(0), -5);
        ShardEngine y = new ShardEngine();
        y.replica(3, 0, 0, 0, 0L);
        y.replica(3, 0, 2, 0, 0L);
        y.flush();
        y.flip(0, 8, 1);
        y.crash(0);
        Check.due("SEQ 0 of the commit is not to be processed", y.recover(0), -5);
    }

    private static void corruptStaysDown() {
        ShardEngine x = threeRecords(16);
        x.flip(1, 12, 1);
        x.crash(0);
        for (int i = 0; i < 2; i++) {
            Check.due("corrupt", x.recover(-1), -5);
            Check.due("DOWN", x.info(7), 1);
            Check.due("DOWN", x.write(1, 0, 1L, -1), -4);
            Check.due("DOWN", x.crash(0), -4);
        }
        x.flip(1, 12, 1);
        Check.due("mended", x.recover(-1), 3);
        Check.due("up", x.info(7), 0);
    }

    private static void persistedOfLatest() {
        ShardEngine x = new ShardEngine();
        x.write(1, 0, SOURCE, -1);
        x.sync(false);
        Check.due("sync", x.info(2), 0);
        x.write(1, 0, SOURCE, -1);
        x.flush();
        Check.due("flush", x.info(2), 1);
        x.write(1, 0, SOURCE, -1);
        x.crash(19);
        x.recover(-1);
        Check.due("recover", x.info(2), 2);
        Sources.forge(x, x.info(4), 0, 2, 9);
        Sources.recovered(x);
        Check.due("recover, CHECKPOINT is less than before", x.info(2), 1);
        x.fill();
        x.sync(true);
        Check.due("sync", x.info(2), 9);
    }

    private static void persistedStays() {
        ShardEngine x = new ShardEngine();
        x.write(1, 0, SOURCE, -1);
        x.sync(true);
        Check.due("by sync", x.info(2), 0);
        x.write(1, 0, SOURCE, -1);
        x.flush();
        Check.due("by flush", x.info(2), 1);
        x.write(1, 0, SOURCE, -1);
        Check.due("nor by its first record", x.info(2), 1);
        x.sync(true);
        x.sync(true);
        Check.due("nor by empty ones", x.info(2), 2);
    }

    /** What is known of id 3 after recovery if the commit knows SEQ 5 of it and the record was changed so. */
    private static ShardEngine commitAndRecord(int offset, int value) {
        ShardEngine x = new ShardEngine();
        x.replica(1, 3, 5, 9, SOURCE);
        Check.due("the record stays", x.flush(), 0);
        Sources.forge(x, 0, 0, offset, value);
        x.crash(0);
        Check.due("recover", x.recover(-1), 1);
        return x;
    }

    private static void committedRecord() {
        int[][] changes = {{2, 5}, {5, 77}, {6, 3}, {7, 200}, {14, 255}};
        for (int[] c : changes) {
            ShardEngine x = commitAndRecord(c[0], c[1]);
            Check.due("source", x.get(3), SOURCE);
            Check.due("VERSION", x.known(3, 2), 9);
            Check.due("SEQ", x.known(3, 1), 5);
            Check.due("visible with its source", x.known(3, 4), 5);
        }
        Check.due("a SEQ less", commitAndRecord(2, 4).known(3, 1), 5);
        Check.due("a SEQ more", commitAndRecord(2, 6).known(3, 1), 6);
        Check.due("another id", commitAndRecord(4, 4).known(4, 1), 5);
        ShardEngine y = new ShardEngine();
        y.replica(1, 3, 5, 9, SOURCE);
        y.replica(3, 0, 6, 0, 0L);
        y.replica(3, 0, 7, 0, 0L);
        y.flush();
        Sources.put(y, 0, 0, 6);
        Sources.put(y, 0, 1, 2);
        Sources.seal(y, 0, 0);
        Sources.put(y, 0, 11, 3);
        Sources.put(y, 0, 12, 3);
        Sources.put(y, 0, 13, 8);
        Sources.put(y, 0, 14, 0);
        Sources.seal(y, 0, 11);
        y.crash(0);
        Check.due("a DELETE, 8 bytes of NOTHING, and two more", y.recover(-1), 4);
        Check.due("still a document", y.known(3, 0), 1);
        Check.due("with its source", y.get(3), SOURCE);
    }

    private static void committedRecordProcessed() {
        ShardEngine x = commitAndRecord(7, 200);
        Check.due("it is processed", x.replica(2, 3, 5, 1, 0L), 0);
        Check.due("SEQ 0 .. 4 are not", x.fill(), 5);
        Check.due("CHECKPOINT", x.info(1), 5);
        x.crash(0);
        Check.due("it counts for stop", x.recover(0), -4);
    }
}
