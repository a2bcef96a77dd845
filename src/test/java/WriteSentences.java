/** Sentences of promises 1 to 7: a new object, write, replica, fill, get, known, refresh. */
final class WriteSentences {
    private static final long SOURCE = Sources.source(7, 1, 2);

    private WriteSentences() {
    }

    static void run() {
        Sentence.test("promise 1", "See above; the query is empty.",
            "all as at first, 15 tokens have a place", WriteSentences::newObject);
        writes();
        replicas();
        fills();
        knowns();
    }

    private static void writes() {
        String place = "promise 2";
        Sentence.test(place, "As primary: an operation of kind 1 or 2",
            "0 and 3 are REFUSED", WriteSentences::writeKinds);
        Sentence.test(place, "(DELETE also if there is no document; source is not looked at),",
            "nothing known, a tombstone, one that was forgotten", WriteSentences::deleteOfNone);
        Sentence.test(place, "with SEQ MAX + 1", "the first, behind a gap", WriteSentences::nextSeq);
        Sentence.test(place, "and a VERSION one above that known (modulo 65536).",
            "nothing known, a tombstone, forgotten", WriteSentences::nextVersion);
        Sentence.test(place, "and a VERSION one above that known (modulo 65536).",
            "60000, 65534, 65535, 0", WriteSentences::versionWraps);
        Sentence.test(place, "If ifSeq is -1 always;", "nothing, a document, a tombstone", WriteSentences::always);
        Sentence.test(place, "-2: if there is no document of the id;",
            "nothing, a document, a tombstone, forgotten", WriteSentences::ifNoDocument);
        Sentence.test(place, "0 or more: if there is one with this SEQ; else CONFLICT",
            "this SEQ, one less, one more, a tombstone's, the greatest int", WriteSentences::ifThisSeq);
        Sentence.test(place, "(less than -2: REFUSED).", "-3 and the least int", WriteSentences::ifSeqRefused);
        Sentence.test(place, "FULL if the record has no place in the current generation,",
            "just a place for INDEX and for DELETE, one byte less", WriteSentences::writeFullByBytes);
        Sentence.test(place, "or SEQ is above CHECKPOINT + 64.", "64 above, 65 above", WriteSentences::writeFullBySeq);
        Sentence.test(place, "The SEQ.", "of INDEX and of DELETE", WriteSentences::writeAnswers);
    }

    private static void replicas() {
        String place = "promise 3";
        Sentence.test(place, "As replica: an operation of another shard. REFUSED also if kind,",
            "0 and 4", WriteSentences::replicaKinds);
        Sentence.test(place, "SEQ (0 .. CHECKPOINT + 64),", "-1, 0, 64 and 65 above", WriteSentences::replicaSeqs);
        Sentence.test(place, "and but for NOTHING id", "-1, 0, 15, 16", WriteSentences::replicaIds);
        Sentence.test(place, "or VERSION (1 .. 60000) is out of range.",
            "0, 1, 60000, 60001", WriteSentences::replicaVersions);
        Sentence.test(place, "0 if the SEQ is processed already.",
            "0, CHECKPOINT, above it; not what was refused or full", WriteSentences::processedAlready);
        Sentence.test(place, "FULL as before.",
            "just a place for each kind, one byte less", WriteSentences::replicaFull);
        Sentence.test(place, "Else it is processed: 1 if something else is known of the id by it, 2 if not.",
            "a SEQ more, a SEQ less, NOTHING, alike but for the SEQ", WriteSentences::replicaAnswers);
    }

    private static void fills() {
        String place = "promise 4";
        Sentence.test(place, "All SEQ up to MAX that are not processed become NOTHING,",
            "none, 0, 63 at once", WriteSentences::fillGaps);
        Sentence.test(place, "the least first: how many.", "their records", WriteSentences::leastFirst);
        Sentence.test(place, "FULL if not all of their records have a place.",
            "just a place, one byte less", WriteSentences::fillFull);
    }

    private static void knowns() {
        Sentence.test("promise 5", "The source of the document of an id that is known; 0 if there is none.",
            "nothing, a tombstone, all bits", WriteSentences::sources);
        String place = "promise 6";
        Sentence.test(place, "Of an id what 0: 0 nothing known, 1 a document, 2 a tombstone;",
            "each, what -1", WriteSentences::knownKinds);
        Sentence.test(place, "1: its SEQ; 2: its VERSION;",
            "nothing, a document, a tombstone, forgotten", WriteSentences::knownSeqs);
        Sentence.test(place, "3: whether it is visible (1 or 0);",
            "before and after a refresh, deleted behind it", WriteSentences::knownVisible);
        Sentence.test(place, "4: its SEQ at the refresh point, -1 if not.",
            "SEQ 0, of then, what 5", WriteSentences::knownVisibleSeq);
        Sentence.test("promise 7", "A new refresh point: how many are visible.",
            "0, 1, 16, 15", WriteSentences::refreshCounts);
    }

    private static void newObject() {
        ShardEngine x = new ShardEngine();
        int[] want = {-1, -1, -1, 1, 0, 0, 0, 0, -1, -1, 0};
        for (int what = 0; what < want.length; what++) {
            Check.due("info(" + what + ")", x.info(what), want[what]);
        }
        Check.due("no query", x.hit(0, -1), -1);
        Check.due("no query", x.after(0, 0, 0), -1);
        Check.due("no query", x.score(0), -1);
        for (int i = 1; i <= 15; i++) {
            Check.due("token", x.ask(6, 0, 0), i);
        }
        Check.due("one more", x.ask(0, 0, 0), -3);
    }

    private static void writeKinds() {
        ShardEngine x = new ShardEngine();
        int[] none = {0, 3, -1, 4, Integer.MAX_VALUE};
        for (int kind : none) {
            Check.due("kind " + kind, x.write(kind, 0, 1L, -1), -1);
        }
        Check.due("kind 1", x.write(1, 0, 1L, -1), 0);
        Check.due("kind 2", x.write(2, 0, 1L, -1), 1);
    }

    private static void deleteOfNone() {
        ShardEngine x = new ShardEngine();
        Check.due("nothing known", x.write(2, 4, Long.MIN_VALUE, -1), 0);
        Check.due("a tombstone", x.known(4, 0), 2);
        Check.due("of a tombstone", x.write(2, 4, -1L, -1), 1);
        Check.due("its VERSION", x.known(4, 2), 2);
        x.refresh();
        Check.due("of one that was forgotten", x.write(2, 4, 5L, -1), 2);
        Check.due("its VERSION", x.known(4, 2), 1);
        Check.due("no source", x.get(4), 0);
        Check.due("no byte of a source", x.info(5), 33);
    }

    private static void nextSeq() {
        ShardEngine x = new ShardEngine();
        Check.due("the first", x.write(1, 0, 1L, -1), 0);
        x.replica(3, 0, 40, 0, 0L);
        Check.due("above MAX, not CHECKPOINT", x.write(1, 0, 1L, -1), 41);
        Check.due("the next", x.write(2, 0, 1L, -1), 42);
        x.replica(3, 0, 1, 0, 0L);
        Check.due("nor above the latest", x.write(1, 0, 1L, -1), 43);
    }

    private static void nextVersion() {
        ShardEngine x = new ShardEngine();
        x.write(1, 0, 1L, -1);
        Check.due("nothing known", x.known(0, 2), 1);
        x.write(2, 0, 1L, -1);
        Check.due("a document", x.known(0, 2), 2);
        x.write(1, 0, 1L, -1);
        Check.due("a tombstone", x.known(0, 2), 3);
        x.write(2, 0, 1L, -1);
        x.refresh();
        x.write(1, 0, 1L, -1);
        Check.due("forgotten", x.known(0, 2), 1);
        Check.due("each id has its own", x.known(1, 2), 0);
    }

    private static void versionWraps() {
        ShardEngine x = new ShardEngine();
        x.replica(1, 0, 0, 60000, 1L);
        x.write(1, 0, 1L, -1);
        Check.due("one above the greatest of a replica", x.known(0, 2), 60001);
        x.sync(false);
        Sources.forge(x, 0, 19, 5, 0xFE);
        Sources.forge(x, 0, 19, 6, 0xFF);
        Sources.recovered(x);
        Check.due("as the record says", x.known(0, 2), 65534);
        int[] versions = {65535, 0, 1};
        for (int version : versions) {
            x.write(version == 0 ? 2 : 1, 0, 1L, -1);
            Check.due("one above", x.known(0, 2), version);
        }
        Check.due("its bytes are both 255", Sources.byteAt(x, 0, 38 + 5) & Sources.byteAt(x, 0, 38 + 6), 255);
        Check.due("its bytes are both 0", Sources.byteAt(x, 0, 57 + 5) | Sources.byteAt(x, 0, 57 + 6), 0);
        x.sync(false);
        Check.due("a tombstone with VERSION 0 is known as well", Sources.recovered(x).known(0, 2), 1);
    }

    private static void always() {
        ShardEngine x = new ShardEngine();
        int[] kinds = {2, 2, 1, 1, 2};
        for (int i = 0; i < kinds.length; i++) {
            Check.due("kind " + kinds[i], x.write(kinds[i], 0, 1L, -1), i);
        }
        x.refresh();
        Check.due("forgotten", x.write(1, 0, 1L, -1), 5);
    }

    private static void ifNoDocument() {
        ShardEngine x = new ShardEngine();
        Check.due("nothing", x.write(1, 0, 1L, -2), 0);
        Check.due("a document", x.write(1, 0, 1L, -2), -2);
        Check.due("a document, DELETE", x.write(2, 0, 1L, -2), -2);
        x.write(2, 0, 1L, -1);
        Check.due("a tombstone, DELETE", x.write(2, 0, 1L, -2), 2);
        Check.due("a tombstone", x.write(1, 0, 1L, -2), 3);
        x.refresh();
        x.write(2, 0, 1L, -1);
        Check.due("visible, but a tombstone", x.write(2, 0, 1L, -2), 5);
        x.refresh();
        Check.due("forgotten", x.write(1, 0, 1L, -2), 6);
    }

    private static void ifThisSeq() {
        ShardEngine x = new ShardEngine();
        Check.due("0 of nothing", x.write(1, 0, 1L, 0), -2);
        x.write(1, 0, 1L, -1);
        Check.due("0", x.write(1, 0, 1L, 0), 1);
        x.write(1, 1, 1L, -1);
        int[] others = {0, 2, 3, Integer.MAX_VALUE};
        for (int ifSeq : others) {
            Check.due("of another SEQ " + ifSeq, x.write(1, 0, 1L, ifSeq), -2);
        }
        x.refresh();
        Check.due("this SEQ, DELETE", x.write(2, 0, 1L, 1), 3);
        Check.due("a tombstone's SEQ", x.write(1, 0, 1L, 3), -2);
        Check.due("a tombstone's SEQ, DELETE", x.write(2, 0, 1L, 3), -2);
        Check.due("the visible one's SEQ", x.write(1, 0, 1L, 1), -2);
    }

    private static void ifSeqRefused() {
        ShardEngine x = new ShardEngine();
        Check.due("-3", x.write(1, 0, 1L, -3), -1);
        Check.due("the least int", x.write(2, 0, 1L, Integer.MIN_VALUE), -1);
        Check.due("-2", x.write(1, 0, 1L, -2), 0);
        Check.due("-3 of a document", x.write(1, 0, 1L, -3), -1);
    }

    private static void writeFullByBytes() {
        ShardEngine x = Sources.filled(240 - 19);
        Check.due("INDEX has a place", x.write(1, 0, 1L, -1), x.info(0));
        Check.due("240", x.info(5), 240);
        x = Sources.filled(240 - 18);
        Check.due("INDEX has none", x.write(1, 0, 1L, -1), -3);
        Check.due("DELETE has", x.write(2, 0, 1L, -1), x.info(0));
        x = Sources.filled(240 - 11);
        Check.due("DELETE has a place", x.write(2, 0, 1L, -1), x.info(0));
        Check.due("240", x.info(5), 240);
        x = Sources.filled(240 - 10);
        Check.due("DELETE has none", x.write(2, 0, 1L, -1), -3);
        x.sync(true);
        Check.due("in another generation it has", x.write(2, 0, 1L, -1), x.info(0));
    }

    private static void writeFullBySeq() {
        ShardEngine x = new ShardEngine();
        x.replica(3, 0, 62, 0, 0L);
        Check.due("64 above -1", x.write(1, 0, 1L, -1), 63);
        Check.due("65 above -1", x.write(1, 0, 1L, -1), -3);
        Check.due("65 above -1, DELETE", x.write(2, 0, 1L, -1), -3);
        x.replica(3, 0, 0, 0, 0L);
        x.replica(3, 0, 1, 0, 0L);
        Check.due("63 above 1", x.write(1, 0, 1L, -1), 64);
        Check.due("64 above 1", x.write(1, 0, 1L, -1), 65);
        Check.due("65 above 1", x.write(1, 0, 1L, -1), -3);
    }

    private static void writeAnswers() {
        ShardEngine x = new ShardEngine();
        Check.due("INDEX", x.write(1, 3, 1L, -1), x.known(3, 1));
        Check.due("DELETE", x.write(2, 4, 1L, -1), x.known(4, 1));
        Check.due("MAX", x.info(0), 1);
    }

    private static void replicaKinds() {
        ShardEngine x = new ShardEngine();
        for (int kind = -1; kind <= 5; kind++) {
            int want = kind < 1 || kind > 3 ? -1 : kind == 3 ? 2 : 1;
            Check.due("kind " + kind, x.replica(kind, kind & 15, 10 + kind, 1, 1L), want);
        }
    }

    private static void replicaSeqs() {
        ShardEngine x = new ShardEngine();
        Check.due("-1", x.replica(3, 0, -1, 0, 0L), -1);
        Check.due("the least int", x.replica(3, 0, Integer.MIN_VALUE, 0, 0L), -1);
        Check.due("the greatest int", x.replica(3, 0, Integer.MAX_VALUE, 0, 0L), -1);
        Check.due("65 above -1", x.replica(3, 0, 64, 0, 0L), -1);
        Check.due("64 above -1", x.replica(3, 0, 63, 0, 0L), 2);
        Check.due("0", x.replica(3, 0, 0, 0, 0L), 2);
        Check.due("65 above 0", x.replica(1, 0, 65, 1, 0L), -1);
        Check.due("64 above 0", x.replica(1, 0, 64, 1, 0L), 1);
        Check.due("63 above 0 was processed", x.replica(1, 0, 63, 1, 0L), 0);
    }

    private static void replicaIds() {
        ShardEngine x = new ShardEngine();
        int[] ids = {-1, 0, 15, 16, Integer.MIN_VALUE, Integer.MAX_VALUE};
        for (int i = 0; i < ids.length; i++) {
            int want = i == 1 || i == 2 ? 1 : -1;
            Check.due("INDEX of " + ids[i], x.replica(1, ids[i], i, 1, 1L), want);
            Check.due("DELETE of " + ids[i], x.replica(2, ids[i], 10 + i, 1, 1L), want);
            Check.due("NOTHING of " + ids[i], x.replica(3, ids[i], 20 + i, 1, 1L), 2);
        }
    }

    private static void replicaVersions() {
        ShardEngine x = new ShardEngine();
        int[] versions = {0, 1, 60000, 60001, -1, 65536, Integer.MIN_VALUE, Integer.MAX_VALUE};
        for (int i = 0; i < versions.length; i++) {
            int want = i == 1 || i == 2 ? 1 : -1;
            Check.due("INDEX " + versions[i], x.replica(1, i, i, versions[i], 1L), want);
            Check.due("known", x.known(i, 2), want == 1 ? versions[i] : 0);
            Check.due("DELETE " + versions[i], x.replica(2, i, 10 + i, versions[i], 1L), want);
            Check.due("NOTHING " + versions[i], x.replica(3, i, 20 + i, versions[i], 1L), 2);
        }
    }

    private static void processedAlready() {
        ShardEngine x = new ShardEngine();
        int[] seqs = {0, 1, 2, 40, 63};
        for (int seq : seqs) {
            Check.due("SEQ " + seq, x.replica(1, 0, seq, 1, 1L), 1);
        }
        Check.due("refused", x.replica(1, 16, 41, 1, 1L), -1);
        for (int seq : seqs) {
            Check.due("the same again", x.replica(1, 0, seq, 1, 1L), 0);
            Check.due("another operation", x.replica(2, 5, seq, 9, 1L), 0);
            Check.due("NOTHING", x.replica(3, 0, seq, 9, 1L), 0);
        }
        Check.due("nothing changed", x.info(5), 95);
        Check.due("nothing changed", x.known(5, 0), 0);
        Check.due("one less", x.replica(3, 0, 39, 0, 0L), 2);
        Check.due("what was refused", x.replica(3, 0, 41, 0, 0L), 2);
        x = Sources.filled(240);
        Check.due("0 though there is no place", x.replica(1, 0, 0, 1, 1L), 0);
        int next = x.info(0) + 1;
        Check.due("full", x.replica(3, 0, next, 0, 0L), -3);
        x.sync(true);
        Check.due("what was full", x.replica(3, 0, next, 0, 0L), 2);
    }

    private static void replicaFull() {
        int[] sizes = {19, 11, 8};
        for (int kind = 1; kind <= 3; kind++) {
            ShardEngine x = Sources.filled(240 - sizes[kind - 1]);
            Check.due("a place", x.replica(kind, 0, x.info(0) + 1, 1, 1L), kind == 3 ? 2 : 1);
            Check.due("240", x.info(5), 240);
            x = Sources.filled(240 - sizes[kind - 1] + 1);
            Check.due("no place", x.replica(kind, 0, x.info(0) + 1, 1, 1L), -3);
            Check.due("65 above CHECKPOINT is REFUSED, not FULL", x.replica(kind, 0, x.info(1) + 65, 1, 1L), -1);
        }
    }

    private static void replicaAnswers() {
        ShardEngine x = new ShardEngine();
        Check.due("of nothing", x.replica(1, 0, 10, 3, SOURCE), 1);
        Check.due("alike but for its SEQ", x.replica(1, 0, 11, 3, SOURCE), 1);
        Check.due("its SEQ", x.known(0, 1), 11);
        Check.due("one less", x.replica(1, 0, 9, 4, SOURCE), 2);
        Check.due("DELETE one less", x.replica(2, 0, 8, 4, SOURCE), 2);
        Check.due("DELETE", x.replica(2, 0, 12, 4, SOURCE), 1);
        Check.due("NOTHING", x.replica(3, 0, 13, 4, SOURCE), 2);
        Check.due("DELETE of nothing", x.replica(2, 1, 0, 1, SOURCE), 1);
        Check.due("DELETE of a tombstone", x.replica(2, 1, 1, 1, SOURCE), 1);
        x.refresh();
        Check.due("forgotten", x.known(1, 0), 0);
        Check.due("INDEX of one that was forgotten", x.replica(1, 1, 2, 1, SOURCE), 1);
    }

    private static void fillGaps() {
        ShardEngine x = new ShardEngine();
        Check.due("MAX is -1", x.fill(), 0);
        x.write(1, 0, SOURCE, -1);
        Check.due("no gap", x.fill(), 0);
        x.replica(1, 1, 2, 1, SOURCE);
        Check.due("one", x.fill(), 1);
        Check.due("CHECKPOINT is MAX", x.info(1), 2);
        Check.due("MAX stays", x.info(0), 2);
        Check.due("SEQ 1 is processed", x.replica(1, 1, 1, 1, SOURCE), 0);
        Check.due("SEQ 3 is not", x.replica(1, 1, 3, 1, SOURCE), 1);
        Check.due("nothing else is known by it", x.known(0, 1), 0);
        ShardEngine y = new ShardEngine();
        y.replica(3, 0, 0, 0, 0L);
        y.replica(3, 0, 29, 0, 0L);
        Check.due("28", y.fill(), 28);
        Check.due("only up to MAX", y.info(0), 29);
        Check.due("and once", y.fill(), 0);
    }

    private static void leastFirst() {
        ShardEngine x = new ShardEngine();
        int[] processed = {4, 0, 2};
        for (int seq : processed) {
            x.replica(3, 0, seq, 0, 0L);
        }
        Check.due("1 and 3", x.fill(), 2);
        Check.due("bytes", x.info(5), 40);
        Check.due("first", Sources.byteAt(x, 0, 24 + 2), 1);
        Check.due("NOTHING", Sources.byteAt(x, 0, 24 + 1), 3);
        Check.due("then", Sources.byteAt(x, 0, 32 + 2), 3);
        Check.due("NOTHING", Sources.byteAt(x, 0, 32 + 1), 3);
    }

    private static void fillFull() {
        for (int more = 0; more <= 1; more++) {
            ShardEngine x = Sources.filled(240 - 19 - 3 * 8 + more);
            int max = x.info(0) + 4;
            x.replica(1, 0, max, 1, 1L);
            Check.due("three gaps", x.fill(), more == 0 ? 3 : -3);
            Check.due("all or none", x.info(1), more == 0 ? max : max - 4);
            Check.due("bytes", x.info(5), more == 0 ? 240 : 217);
        }
        ShardEngine y = Sources.filled(240);
        Check.due("no gap has always a place", y.fill(), 0);
    }

    private static void sources() {
        ShardEngine x = new ShardEngine();
        long[] all = {0L, -1L, 1L, Long.MIN_VALUE, Long.MAX_VALUE, 0x80000000L, 1L << 32};
        for (int id = 0; id < all.length; id++) {
            x.write(1, id, all[id], -1);
            Check.due("source", x.get(id), all[id]);
        }
        Check.due("nothing", x.get(7), 0);
        x.write(2, 1, 5L, -1);
        Check.due("a tombstone", x.get(1), 0);
        x.refresh();
        Check.due("forgotten", x.get(1), 0);
        x.sync(false);
        Sources.recovered(x);
        for (int id = 2; id < all.length; id++) {
            Check.due("source again", x.get(id), all[id]);
        }
        Check.due("a tombstone again", x.get(1), 0);
    }

    private static void knownKinds() {
        ShardEngine x = new ShardEngine();
        x.write(1, 0, 0L, -1);
        x.write(2, 15, 0L, -1);
        Check.due("a document, though its source is 0", x.known(0, 0), 1);
        Check.due("a tombstone", x.known(15, 0), 2);
        Check.due("nothing", x.known(1, 0), 0);
        Check.due("what -1", x.known(0, -1), -1);
        Check.due("what -1 of nothing", x.known(1, -1), -1);
        Check.due("the least what", x.known(0, Integer.MIN_VALUE), -1);
    }

    private static void knownSeqs() {
        ShardEngine x = new ShardEngine();
        x.replica(1, 0, 0, 7, 0L);
        x.replica(2, 1, 1, 8, 0L);
        x.replica(2, 2, 5, 60000, 0L);
        int[][] before = {{0, 7}, {1, 8}, {5, 60000}, {-1, 0}};
        int[][] after = {{0, 7}, {-1, 0}, {5, 60000}, {-1, 0}};
        for (int id = 0; id < 4; id++) {
            Check.due("SEQ", x.known(id, 1), before[id][0]);
            Check.due("VERSION", x.known(id, 2), before[id][1]);
        }
        x.refresh();
        for (int id = 0; id < 4; id++) {
            Check.due("SEQ after a refresh", x.known(id, 1), after[id][0]);
            Check.due("VERSION after a refresh", x.known(id, 2), after[id][1]);
        }
    }

    private static void knownVisible() {
        ShardEngine x = new ShardEngine();
        x.write(1, 0, 0L, -1);
        x.write(1, 15, 0L, -1);
        Check.due("not yet", x.known(0, 3), 0);
        x.refresh();
        Check.due("visible", x.known(0, 3), 1);
        Check.due("visible", x.known(15, 3), 1);
        Check.due("nothing is not", x.known(1, 3), 0);
        x.write(2, 0, 0L, -1);
        Check.due("still visible", x.known(0, 3), 1);
        x.refresh();
        Check.due("no more", x.known(0, 3), 0);
        Check.due("visible", x.known(15, 3), 1);
    }

    private static void knownVisibleSeq() {
        ShardEngine x = new ShardEngine();
        x.write(1, 0, 0L, -1);
        Check.due("not yet", x.known(0, 4), -1);
        x.refresh();
        Check.due("SEQ 0", x.known(0, 4), 0);
        x.write(1, 0, 0L, -1);
        Check.due("of then", x.known(0, 4), 0);
        x.refresh();
        Check.due("SEQ 1", x.known(0, 4), 1);
        x.write(2, 0, 0L, -1);
        Check.due("of then", x.known(0, 4), 1);
        x.refresh();
        Check.due("a tombstone is not visible", x.known(0, 4), -1);
        x.replica(2, 1, 9, 1, 0L);
        x.refresh();
        Check.due("nor is one that is not forgotten", x.known(1, 4), -1);
        Check.due("what 5", x.known(0, 5), -1);
        Check.due("the greatest what", x.known(0, Integer.MAX_VALUE), -1);
    }

    private static void refreshCounts() {
        ShardEngine x = new ShardEngine();
        Check.due("none", x.refresh(), 0);
        x.write(1, 0, SOURCE, -1);
        Check.due("one", x.refresh(), 1);
        for (int id = 1; id < 16; id++) {
            if (id == 12) {
                x.sync(true);
            }
            x.write(1, id, SOURCE, -1);
        }
        Check.due("all", x.refresh(), 16);
        x.write(2, 15, 0L, -1);
        Check.due("all but one", x.refresh(), 15);
        Check.due("as info says", x.info(10), 15);
    }
}
