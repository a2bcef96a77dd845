import java.util.List;
import java.util.function.ToLongFunction;

/** Sentences of the terms on documents, operations, the commit, the refresh point and refusals; promise 17. */
final class TermSentences {
    private static final long SOURCE = Sources.source(7, 1, 2);
    private static final String TERMS = "terms";

    private TermSentences() {
    }

    static void run() {
        documents();
        operations();
        points();
        refusals();
        infos();
    }

    private static void documents() {
        Sentence.test(TERMS, "DOCUMENTS: ids 0 .. 15.", "0 and 15 are, -1 and 16 are not", TermSentences::ids);
        Sentence.test(TERMS, "A SOURCE is a long: its lowest 32 bits are a NUMBER (an int),",
            "the least, -1, the greatest", TermSentences::numbers);
        Sentence.test(TERMS, "the others a TEXT of up to eight WORDS 1 .. 15, four bits each, the lowest first;",
            "the first and the eighth word, words 1 and 15", TermSentences::words);
        Sentence.test(TERMS, "the text ends before the first 0.",
            "a 0 in front, in the middle, none", TermSentences::textEnds);
    }

    private static void operations() {
        Sentence.test(TERMS, "OPERATIONS have a KIND (1 INDEX, 2 DELETE, 3 NOTHING),",
            "0 and 4 are none", TermSentences::kinds);
        Sentence.test(TERMS, "a SEQ (0, 1, ..),", "0 is the first, -1 is none", TermSentences::firstSeq);
        Sentence.test(TERMS, "and but for NOTHING an id, a VERSION and (INDEX) a source.",
            "NOTHING has none of them, DELETE no source", TermSentences::partsOfOperations);
        Sentence.test(TERMS, "What is known of an id is that of those PROCESSED with the greatest SEQ: a document "
            + "(INDEX) or a TOMBSTONE (DELETE);",
            "the greatest, not the latest, by one", TermSentences::greatestSeqIsKnown);
        Sentence.test(TERMS, "nothing at first, or when it was FORGOTTEN: then its SEQ is -1, its VERSION 0.",
            "at first and when forgotten", TermSentences::nothingKnown);
        Sentence.test(TERMS, "CHECKPOINT is the greatest n for which all SEQ 0 .. n are processed (-1 at first),",
            "a gap at 0, a gap behind, both closed", TermSentences::checkpoint);
        Sentence.test(TERMS, "MAX the greatest SEQ that is processed (-1 at first).",
            "not the latest", TermSentences::max);
        Sentence.test(TERMS, "SEQ of all processed operations are at most CHECKPOINT + 64 when they come.",
            "64 above come, 65 above do not", TermSentences::window);
    }

    private static void points() {
        Sentence.test(TERMS, "THE COMMIT (at first: nothing known, all -1)",
            "a crash before any flush", TermSentences::firstCommit);
        Sentence.test(TERMS, "holds what is known of all ids, CHECKPOINT and MAX as they were at a flush().",
            "ids 0 and 15, what comes later is not held", TermSentences::commitHolds);
        Sentence.test(TERMS, "REFRESH POINT: what documents there were at the latest refresh() or recover() (none at "
            + "first): these are VISIBLE, with their sources of then.",
            "none, of then, the latest", TermSentences::visible);
        Sentence.test(TERMS, "At a refresh() all tombstones with SEQ up to CHECKPOINT are FORGOTTEN.",
            "at CHECKPOINT goes, above it stays, documents stay", TermSentences::forgotten);
    }

    private static void refusals() {
        Sentence.test(TERMS, "Numbers out of range and what there is not are REFUSED;",
            "each call", TermSentences::refused);
        Sentence.test(TERMS, "DOWN answers all but recover(), flip(), ask() and info() while the shard is;",
            "each call", TermSentences::downAnswers);
        Sentence.test(TERMS, "this comes before REFUSED.",
            "each call that can be REFUSED", TermSentences::downBeforeRefused);
        Sentence.test(TERMS, "Nothing changes then,", "not by REFUSED", TermSentences::unchangedByRefused);
        Sentence.test(TERMS, "Nothing changes then,", "not by DOWN", TermSentences::unchangedByDown);
        Sentence.test(TERMS, "nor by CONFLICT or FULL,",
            "each call that has them", TermSentences::unchangedByConflictAndFull);
        Sentence.test(TERMS, "which are tested in this order behind them.",
            "REFUSED, CONFLICT, FULL", TermSentences::orderOfTests);
        Sentence.test("face", "An object is used for at most 512 calls",
            "no call throws, for any arguments", TermSentences::nothingThrows);
    }

    private static void infos() {
        String place = "promise 17";
        Sentence.test(place, "What 0: MAX; 1: CHECKPOINT; 2: PERSISTED (0 to 2 DOWN: -1);",
            "up, DOWN, up again", TermSentences::infoOfSeqs);
        Sentence.test(place, "3: how many generations; 4: the number of the oldest;",
            "1 to 4 of them", TermSentences::infoOfGenerations);
        Sentence.test(place, "5: bytes of the current one; 6: those that are synced;",
            "0, some, all; up and DOWN", TermSentences::infoOfBytes);
        Sentence.test(place, "7: 1 if DOWN;", "up, DOWN, a recovery that fails, up again", TermSentences::infoOfDown);
        Sentence.test(place, "8, 9: CHECKPOINT, MAX of the commit;",
            "at first, up and DOWN", TermSentences::infoOfCommit);
        Sentence.test(place, "10: how many are visible (DOWN: 0).", "0, 16, DOWN", TermSentences::infoOfVisible);
        Sentence.test("terms, promise 17", "Numbers out of range and what there is not are REFUSED;",
            "what -1 and 11", TermSentences::infoRefused);
    }

    private static void ids() {
        ShardEngine x = new ShardEngine();
        int[] ids = {0, 15, -1, 16, Integer.MIN_VALUE, Integer.MAX_VALUE};
        for (int i = 0; i < ids.length; i++) {
            int id = ids[i];
            int next = x.info(0) + 1;
            Check.due("write", x.write(1, id, 1L, -1), i < 2 ? next : -1);
            Check.due("replica", x.replica(1, id, next + 1, 1, SOURCE), i < 2 ? 1 : -1);
            Check.due("get", x.get(id), i < 2 ? SOURCE : -1);
            Check.due("known", x.known(id, 0), i < 2 ? 1 : -1);
        }
        x.refresh();
        x.ask(0, 0, 0);
        for (int i = 0; i < ids.length; i++) {
            Check.due("score", x.score(ids[i]), i < 2 ? 1 : -1);
        }
    }

    private static void numbers() {
        ShardEngine x = new ShardEngine();
        int[] numbers = {Integer.MIN_VALUE, -1, 0, Integer.MAX_VALUE};
        for (int i = 0; i < numbers.length; i++) {
            x.write(1, i, Sources.source(numbers[i], 15, 15, 15, 15, 15, 15, 15, 15), -1);
        }
        x.refresh();
        for (int i = 0; i < numbers.length; i++) {
            x.ask(7, 0, 0);
            x.ask(3, numbers[i], numbers[i]);
            Check.due("how many have the number", x.hit(1, -1), 1);
            Check.due("which", x.hit(1, 0), i);
        }
    }

    private static void words() {
        ShardEngine x = new ShardEngine();
        x.write(1, 0, Sources.source(-1, 1, 2, 3, 4, 5, 6, 7, 15), -1);
        Check.due("the highest bits are the eighth word", x.get(0) >>> 60, 15);
        x.refresh();
        for (int word = 1; word <= 15; word++) {
            x.ask(7, 0, 0);
            x.ask(1, word, 0);
            Check.due("word " + word, x.score(0), word <= 7 || word == 15 ? 1 : -1);
        }
        int[][] phrases = {{1, 2, 2}, {2, 1, -1}, {7, 15, 2}, {15, 7, -1}, {15, 1, -1}, {1, 3, -1}};
        for (int[] p : phrases) {
            x.ask(7, 0, 0);
            x.ask(2, p[0], p[1]);
            Check.due("phrase " + p[0] + " " + p[1], x.score(0), p[2]);
        }
    }

    private static void textEnds() {
        ShardEngine x = new ShardEngine();
        x.write(1, 0, Sources.source(0, 0, 3, 3), -1);
        x.write(1, 1, Sources.source(0, 3, 0, 3), -1);
        x.write(1, 2, Sources.source(0, 3, 3, 3, 3, 3, 3, 3, 3), -1);
        x.write(1, 3, Sources.source(0, 3, 3, 3, 3, 3, 3, 3), -1);
        x.write(1, 4, Sources.source(0x33333333), -1);
        x.refresh();
        x.ask(1, 3, 0);
        int[] often = {-1, 1, 8, 7, -1};
        for (int id = 0; id < 5; id++) {
            Check.due("WORD in " + id, x.score(id), often[id]);
        }
        x.ask(7, 0, 0);
        x.ask(2, 3, 3);
        int[] phrases = {-1, -1, 14, 12, -1};
        for (int id = 0; id < 5; id++) {
            Check.due("PHRASE in " + id, x.score(id), phrases[id]);
        }
        Check.due("the source is whole all the same", x.get(0), Sources.source(0, 0, 3, 3));
    }

    private static void kinds() {
        ShardEngine x = new ShardEngine();
        int[] none = {0, 4, -1, 5, 255, 257, Integer.MIN_VALUE, Integer.MAX_VALUE};
        for (int kind : none) {
            Check.due("write of kind " + kind, x.write(kind, 0, 1L, -1), -1);
            Check.due("replica of kind " + kind, x.replica(kind, 0, 0, 1, 1L), -1);
        }
        Check.due("INDEX", x.replica(1, 0, 0, 1, 1L), 1);
        Check.due("a document", x.known(0, 0), 1);
        Check.due("DELETE", x.replica(2, 0, 1, 2, 1L), 1);
        Check.due("a tombstone", x.known(0, 0), 2);
        Check.due("NOTHING", x.replica(3, 0, 2, 3, 1L), 2);
        Check.due("still a tombstone", x.known(0, 0), 2);
    }

    private static void firstSeq() {
        ShardEngine x = new ShardEngine();
        Check.due("SEQ -1", x.replica(1, 0, -1, 1, 1L), -1);
        Check.due("the first", x.write(1, 0, 1L, -1), 0);
        Check.due("the second", x.write(1, 0, 1L, -1), 1);
        Check.due("SEQ 0 of a replica", new ShardEngine().replica(3, 0, 0, 0, 0L), 2);
    }

    private static void partsOfOperations() {
        ShardEngine x = new ShardEngine();
        x.write(1, 0, SOURCE, -1);
        Check.due("NOTHING", x.replica(3, 0, 1, 9, 5L), 2);
        Check.due("the id's SEQ", x.known(0, 1), 0);
        Check.due("its VERSION", x.known(0, 2), 1);
        Check.due("its source", x.get(0), SOURCE);
        x.write(2, 0, 5L, -1);
        Check.due("DELETE has no source", x.get(0), 0);
        Check.due("its VERSION", x.known(0, 2), 2);
        Check.due("its SEQ", x.known(0, 1), 2);
    }

    private static void greatestSeqIsKnown() {
        ShardEngine x = new ShardEngine();
        x.replica(1, 0, 5, 9, SOURCE);
        x.replica(2, 0, 4, 10, 0L);
        Check.due("one less comes later", x.known(0, 0), 1);
        Check.due("its SEQ", x.known(0, 1), 5);
        Check.due("its VERSION, though a greater one came", x.known(0, 2), 9);
        x.replica(2, 0, 6, 3, 0L);
        Check.due("one more comes later", x.known(0, 0), 2);
        Check.due("its SEQ", x.known(0, 1), 6);
        Check.due("its VERSION, though it is less", x.known(0, 2), 3);
        x.replica(1, 0, 3, 11, SOURCE);
        Check.due("a document below a tombstone", x.known(0, 0), 2);
        Check.due("no source", x.get(0), 0);
        x.replica(3, 0, 7, 0, 0L);
        Check.due("NOTHING above", x.known(0, 1), 6);
    }

    private static void nothingKnown() {
        ShardEngine x = new ShardEngine();
        x.write(1, 3, SOURCE, -1);
        x.write(2, 3, SOURCE, -1);
        x.refresh();
        for (int id = 2; id <= 3; id++) {
            Check.due("nothing", x.known(id, 0), 0);
            Check.due("SEQ", x.known(id, 1), -1);
            Check.due("VERSION", x.known(id, 2), 0);
            Check.due("source", x.get(id), 0);
        }
    }

    private static void checkpoint() {
        ShardEngine x = new ShardEngine();
        Check.due("at first", x.info(1), -1);
        x.replica(3, 0, 1, 0, 0L);
        x.replica(3, 0, 2, 0, 0L);
        Check.due("a gap at 0", x.info(1), -1);
        x.replica(3, 0, 4, 0, 0L);
        x.replica(3, 0, 0, 0, 0L);
        Check.due("up to the next gap", x.info(1), 2);
        x.replica(3, 0, 3, 0, 0L);
        Check.due("no gap", x.info(1), 4);
        x.write(1, 0, 1L, -1);
        Check.due("a write", x.info(1), 5);
    }

    private static void max() {
        ShardEngine x = new ShardEngine();
        Check.due("at first", x.info(0), -1);
        x.replica(3, 0, 7, 0, 0L);
        x.replica(3, 0, 6, 0, 0L);
        x.replica(3, 0, 0, 0, 0L);
        Check.due("not the latest", x.info(0), 7);
        x.replica(3, 0, 8, 0, 0L);
        Check.due("one more", x.info(0), 8);
        x.refresh();
        Check.due("SEQ that are not processed do not count", x.info(1), 0);
    }

    private static void window() {
        ShardEngine x = new ShardEngine();
        Check.due("65 above -1", x.replica(1, 0, 64, 1, 1L), -1);
        Check.due("64 above -1", x.replica(1, 0, 63, 1, 1L), 1);
        x.replica(3, 0, 0, 0, 0L);
        Check.due("65 above 0", x.replica(1, 0, 65, 1, 1L), -1);
        Check.due("a write 64 above 0", x.write(1, 1, 1L, -1), 64);
        Check.due("a write 65 above 0", x.write(1, 1, 1L, -1), -3);
    }

    private static void firstCommit() {
        ShardEngine x = new ShardEngine();
        Check.due("its CHECKPOINT", x.info(8), -1);
        Check.due("its MAX", x.info(9), -1);
        x.write(1, 0, SOURCE, -1);
        x.write(2, 15, 0L, -1);
        x.refresh();
        x.crash(0);
        Check.due("recover", x.recover(-1), 0);
        Check.holds("all as at first", Look.at(x).equals(Look.at(new ShardEngine())));
    }

    private static void commitHolds() {
        ShardEngine x = new ShardEngine();
        for (int id = 0; id < 12; id++) {
            x.write(1, id, SOURCE + id, -1);
        }
        x.sync(true);
        x.replica(2, 12, 12, 500, 0L);
        x.replica(1, 13, 14, 600, SOURCE);
        x.write(2, 15, 0L, -1);
        Check.due("the second generation stays", x.flush(), 1);
        Check.due("CHECKPOINT", x.info(8), 12);
        Check.due("MAX", x.info(9), 15);
        x.write(1, 0, 99L, -1);
        x.replica(3, 0, 13, 0, 0L);
        Check.due("CHECKPOINT of then", x.info(8), 12);
        Check.due("MAX of then", x.info(9), 15);
        x.crash(0);
        Check.due("recover", x.recover(-1), 2);
        for (int id = 0; id < 12; id++) {
            Check.due("source of " + id, x.get(id), SOURCE + id);
            Check.due("SEQ of " + id, x.known(id, 1), id);
        }
        Check.due("a tombstone", x.known(12, 0), 2);
        Check.due("its VERSION", x.known(12, 2), 500);
        Check.due("above CHECKPOINT", x.known(13, 2), 600);
        Check.due("nothing known", x.known(14, 0), 0);
        Check.due("the last id", x.known(15, 0), 2);
    }

    private static void visible() {
        ShardEngine x = new ShardEngine();
        x.ask(0, 0, 0);
        x.write(1, 1, Sources.source(5, 1), -1);
        Check.due("none at first", x.hit(0, -1), 0);
        x.refresh();
        x.write(1, 1, Sources.source(6, 2), -1);
        x.write(1, 2, Sources.source(7, 3), -1);
        Check.due("one", x.hit(0, -1), 1);
        x.ask(7, 0, 0);
        x.ask(1, 1, 0);
        Check.due("its source of then", x.hit(0, 0), 1);
        x.write(2, 1, 0L, -1);
        Check.due("visible though deleted", x.known(1, 3), 1);
        x.sync(false);
        Sources.recovered(x);
        Check.due("not at the recovery", x.known(1, 3), 0);
        Check.due("the other one is", x.known(2, 3), 1);
        Check.due("which came to be known last", x.known(2, 4), 2);
    }

    private static void forgotten() {
        ShardEngine x = new ShardEngine();
        x.replica(2, 0, 0, 5, 0L);
        x.replica(2, 1, 1, 5, 0L);
        x.replica(2, 2, 3, 5, 0L);
        x.replica(1, 3, 4, 5, SOURCE);
        Check.due("CHECKPOINT", x.info(1), 1);
        x.refresh();
        Check.due("below CHECKPOINT", x.known(0, 0), 0);
        Check.due("at CHECKPOINT", x.known(1, 0), 0);
        Check.due("above CHECKPOINT", x.known(2, 0), 2);
        Check.due("a document", x.known(3, 0), 1);
        x.replica(3, 0, 2, 0, 0L);
        Check.due("CHECKPOINT", x.info(1), 4);
        Check.due("only at a refresh", x.known(2, 0), 2);
        x.refresh();
        Check.due("at the next one", x.known(2, 0), 0);
        Check.due("documents up to CHECKPOINT stay", x.get(3), SOURCE);
    }

    private static ShardEngine shard() {
        ShardEngine x = new ShardEngine();
        x.write(1, 0, SOURCE, -1);
        x.write(1, 1, 9L, -1);
        x.flush();
        x.refresh();
        x.write(2, 1, 0L, -1);
        x.sync(true);
        x.replica(1, 2, 5, 7, SOURCE);
        x.ask(0, 0, 0);
        return x;
    }

    private static ShardEngine crashed() {
        ShardEngine x = shard();
        Check.due("crash", x.crash(19), 0);
        return x;
    }

    private record Call(String name, ToLongFunction<ShardEngine> run) {
    }

    /** What is REFUSED by a shard() that is up, and DOWN by one that is not. */
    private static final List<Call> REFUSED_CALLS = List.of(
        new Call("write kind", x -> x.write(3, 0, 1L, -1)), new Call("write id", x -> x.write(1, 16, 1L, -1)),
        new Call("write ifSeq", x -> x.write(1, 0, 1L, -3)),
        new Call("replica kind", x -> x.replica(4, 0, 6, 1, 1L)),
        new Call("replica id", x -> x.replica(1, 16, 6, 1, 1L)),
        new Call("replica SEQ", x -> x.replica(1, 0, 99, 1, 1L)),
        new Call("replica VERSION", x -> x.replica(1, 0, 6, 60001, 1L)),
        new Call("get", x -> x.get(16)), new Call("known id", x -> x.known(16, 0)),
        new Call("known what", x -> x.known(0, 5)), new Call("crash", x -> x.crash(20)),
        new Call("hit sort", x -> x.hit(3, 0)), new Call("hit k", x -> x.hit(0, 2)),
        new Call("after", x -> x.after(3, 0, 0)), new Call("score", x -> x.score(16)));

    private static void refused() {
        for (Call call : REFUSED_CALLS) {
            Check.due(call.name, call.run.applyAsLong(shard()), -1);
        }
        Check.due("recover of a shard that is up", shard().recover(-1), -1);
        Check.due("flip of a generation that is gone", shard().flip(0, 0, 0), -1);
        Check.due("flip of a byte that there is not", shard().flip(2, 19, 0), -1);
        Check.due("ask", shard().ask(8, 0, 0), -1);
        Check.due("info", shard().info(11), -1);
        Check.due("a document that is not visible", shard().score(2), -1);
    }

    private static void downAnswers() {
        ShardEngine x = crashed();
        Check.due("write", x.write(1, 0, 1L, -1), -4);
        Check.due("replica", x.replica(1, 0, 6, 1, 1L), -4);
        Check.due("fill", x.fill(), -4);
        Check.due("get", x.get(0), -4);
        Check.due("known", x.known(0, 0), -4);
        Check.due("refresh", x.refresh(), -4);
        Check.due("sync", x.sync(false), -4);
        Check.due("sync with roll", x.sync(true), -4);
        Check.due("flush", x.flush(), -4);
        Check.due("crash", x.crash(0), -4);
        Check.due("hit", x.hit(0, -1), -4);
        Check.due("after", x.after(0, 9, 0), -4);
        Check.due("score", x.score(0), -4);
        Check.due("not flip", x.flip(2, 1, 0), 1);
        Check.due("not ask", x.ask(6, 0, 0), 2);
        Check.due("not info", x.info(3), 2);
        Check.due("not recover", x.recover(-1), 2);
    }

    private static void downBeforeRefused() {
        for (Call call : REFUSED_CALLS) {
            Check.due(call.name, call.run.applyAsLong(crashed()), -4);
        }
        Check.due("flip is REFUSED", crashed().flip(2, 19, 0), -1);
        Check.due("ask is REFUSED", crashed().ask(1, 0, 0), -1);
        Check.due("info is REFUSED", crashed().info(-1), -1);
    }

    private static void unchangedByRefused() {
        for (Call call : REFUSED_CALLS) {
            Look.unchanged(call.name, TermSentences::shard, call.run, -1);
        }
        Look.unchanged("recover", TermSentences::shard, x -> x.recover(0), -1);
        Look.unchanged("flip", TermSentences::shard, x -> x.flip(2, 0, 256), -1);
        Look.unchanged("ask", TermSentences::shard, x -> x.ask(2, 1, 16), -1);
    }

    private static void unchangedByDown() {
        for (Call call : REFUSED_CALLS) {
            Look.unchanged(call.name, TermSentences::crashed, call.run, -4);
        }
        Look.unchanged("write", TermSentences::crashed, x -> x.write(1, 0, 1L, -1), -4);
        Look.unchanged("replica", TermSentences::crashed, x -> x.replica(1, 0, 6, 1, 1L), -4);
        Look.unchanged("fill", TermSentences::crashed, x -> x.fill(), -4);
        Look.unchanged("refresh", TermSentences::crashed, x -> x.refresh(), -4);
        Look.unchanged("sync", TermSentences::crashed, x -> x.sync(false), -4);
        Look.unchanged("sync with roll", TermSentences::crashed, x -> x.sync(true), -4);
        Look.unchanged("flush", TermSentences::crashed, x -> x.flush(), -4);
        Look.unchanged("crash", TermSentences::crashed, x -> x.crash(0), -4);
    }

    /** Four generations, each of them with a record above CHECKPOINT, the last one with no place for another. */
    private static ShardEngine fullShard() {
        ShardEngine x = new ShardEngine();
        for (int i = 0; i < 3; i++) {
            x.replica(1, i, i + 2, 1, SOURCE);
            x.sync(true);
        }
        for (int seq = 5; seq < 30; seq++) {
            x.replica(1, 3, seq, 1, SOURCE);
        }
        Check.due("bytes", x.info(5), 228);
        x.replica(2, 4, 20, 1, SOURCE);
        Check.due("bytes", x.info(5), 239);
        return x;
    }

    private static void unchangedByConflictAndFull() {
        Look.unchanged("CONFLICT", TermSentences::shard, x -> x.write(1, 0, 1L, 1), -2);
        Look.unchanged("CONFLICT", TermSentences::shard, x -> x.write(2, 0, 1L, -2), -2);
        Look.unchanged("write is FULL", TermSentences::fullShard, x -> x.write(2, 0, 1L, -1), -3);
        Look.unchanged("replica is FULL", TermSentences::fullShard, x -> x.replica(3, 0, 0, 1, 1L), -3);
        Look.unchanged("fill is FULL", TermSentences::fullShard, x -> x.fill(), -3);
        Look.unchanged("sync is FULL", TermSentences::fullShard, x -> x.sync(true), -3);
        Look.unchanged("flush is FULL", TermSentences::fullShard, x -> x.flush(), -3);
    }

    private static void orderOfTests() {
        ShardEngine x = fullShard();
        Check.due("REFUSED, CONFLICT and FULL", x.write(3, 0, 1L, -2), -1);
        Check.due("REFUSED and CONFLICT", shard().write(3, 0, 1L, -2), -1);
        Check.due("CONFLICT and FULL", x.write(1, 0, 1L, -2), -2);
        Check.due("CONFLICT and FULL", x.write(1, 0, 1L, 0), -2);
        Check.due("FULL", x.write(1, 0, 1L, 2), -3);
        Check.due("REFUSED and FULL", x.replica(1, 0, 1, 0, 1L), -1);
        Check.due("processed already and FULL", x.replica(1, 0, 2, 1, 1L), 0);
        Check.due("FULL", x.replica(1, 0, 1, 1, 1L), -3);
        x.crash(0);
        Check.due("DOWN and all of them", x.write(3, 0, 1L, -2), -4);
    }

    private static void nothingThrows() {
        int[] wild = {0, 1, 2, 3, 4, 5, 7, 9, 14, 15, 16, 60000, 60001, 240, 255, -1, -2, -3, Integer.MIN_VALUE,
            Integer.MAX_VALUE};
        ShardEngine x = new ShardEngine();
        long state = 1;
        for (int i = 0; i < 60000; i++) {
            state = state * 6364136223846793005L + 1442695040888963407L;
            int bits = (int) (state >>> 33);
            int a = wild[bits % 20];
            int b = wild[bits / 20 % 20];
            int c = wild[bits / 400 % 20];
            int answer = wildCall(x, bits / 8000 % 32, a, b, c, state);
            Check.holds("an answer of -5 or more", answer >= -5);
            if (i % 5000 == 4999) {
                x = new ShardEngine();
            }
        }
    }

    private static int wildCall(ShardEngine x, int which, int a, int b, int c, long source) {
        switch (which) {
            case 0:
                return x.write(a, b, source, c);
            case 1:
                return x.replica(a, b, c, 1, source);
            case 2:
                return x.fill();
            case 3:
                x.get(a);
                return 0;
            case 4:
                return x.known(a, b);
            case 5:
                return x.refresh();
            case 6:
                return x.sync(a > 3);
            case 7:
                return x.flush();
            case 8:
                return x.crash(a);
            case 9:
                return x.recover(a);
            case 10:
                return x.flip(x.info(4) + (c & 3), a, b);
            case 11:
            case 12:
                return x.ask(a, b, c);
            case 13:
                return x.hit(a, b);
            case 14:
                return x.after(a, b, c);
            case 15:
                return x.score(a);
            case 16:
                return x.info(a);
            case 17:
                return x.recover(-1);
            case 18:
                return x.replica(1 + (a & 1), c & 15, x.info(1) + (b & 127), 1, source);
            case 19:
                return x.flip(a, b, c);
            default:
                return x.write(1 + (a & 1), b & 15, source, -1);
        }
    }

    private static void infoOfSeqs() {
        ShardEngine x = new ShardEngine();
        x.write(1, 0, SOURCE, -1);
        x.sync(false);
        x.write(1, 0, SOURCE, -1);
        x.replica(1, 0, 5, 1, SOURCE);
        Check.due("MAX", x.info(0), 5);
        Check.due("CHECKPOINT", x.info(1), 1);
        Check.due("PERSISTED", x.info(2), 0);
        x.crash(19);
        for (int what = 0; what <= 2; what++) {
            Check.due("DOWN: info(" + what + ")", x.info(what), -1);
        }
        x.recover(-1);
        Check.due("MAX", x.info(0), 1);
        Check.due("CHECKPOINT", x.info(1), 1);
        Check.due("PERSISTED", x.info(2), 1);
    }

    private static void infoOfGenerations() {
        ShardEngine x = new ShardEngine();
        for (int count = 1; count <= 4; count++) {
            Check.due("how many", x.info(3), count);
            Check.due("the oldest", x.info(4), 0);
            x.sync(true);
        }
        Check.due("still four", x.info(3), 4);
        x.flush();
        Check.due("one", x.info(3), 1);
        Check.due("the oldest", x.info(4), 4);
        x.crash(0);
        Check.due("DOWN: one", x.info(3), 1);
        Check.due("DOWN: the oldest", x.info(4), 4);
    }

    private static void infoOfBytes() {
        ShardEngine x = new ShardEngine();
        Check.due("bytes", x.info(5), 0);
        Check.due("synced", x.info(6), 0);
        x.write(1, 0, SOURCE, -1);
        Check.due("bytes", x.info(5), 19);
        Check.due("synced", x.info(6), 0);
        x.sync(false);
        x.write(2, 0, SOURCE, -1);
        Check.due("bytes", x.info(5), 30);
        Check.due("synced", x.info(6), 19);
        x.crash(4);
        Check.due("DOWN: bytes", x.info(5), 23);
        Check.due("DOWN: synced", x.info(6), 19);
        x.recover(-1);
        Check.due("bytes", x.info(5), 19);
        x.sync(true);
        Check.due("bytes of the next", x.info(5), 0);
        Check.due("synced of the next", x.info(6), 0);
    }

    private static void infoOfDown() {
        ShardEngine x = new ShardEngine();
        Check.due("at first", x.info(7), 0);
        x.write(1, 0, SOURCE, -1);
        x.crash(19);
        Check.due("after a crash", x.info(7), 1);
        x.recover(0);
        Check.due("after a recovery that was stopped", x.info(7), 1);
        x.recover(1);
        Check.due("after a recovery", x.info(7), 0);
    }

    private static void infoOfCommit() {
        ShardEngine x = new ShardEngine();
        x.write(1, 0, SOURCE, -1);
        x.replica(3, 0, 4, 0, 0L);
        x.sync(false);
        Check.due("CHECKPOINT at first", x.info(8), -1);
        Check.due("MAX at first", x.info(9), -1);
        x.flush();
        x.fill();
        Check.due("CHECKPOINT", x.info(8), 0);
        Check.due("MAX", x.info(9), 4);
        x.crash(0);
        Check.due("DOWN: CHECKPOINT", x.info(8), 0);
        Check.due("DOWN: MAX", x.info(9), 4);
    }

    private static void infoOfVisible() {
        ShardEngine x = new ShardEngine();
        for (int id = 0; id < 16; id++) {
            x.write(1, id, SOURCE, -1);
            if (id == 11) {
                Check.due("none yet", x.info(10), 0);
                x.sync(true);
            }
        }
        x.refresh();
        Check.due("all", x.info(10), 16);
        x.crash(76);
        Check.due("DOWN", x.info(10), 0);
        x.recover(-1);
        Check.due("all again", x.info(10), 16);
    }

    private static void infoRefused() {
        int[] none = {-1, 11, -2, 12, Integer.MIN_VALUE, Integer.MAX_VALUE};
        for (int what : none) {
            Check.due("info(" + what + ")", shard().info(what), -1);
            Check.due("DOWN: info(" + what + ")", crashed().info(what), -1);
        }
    }
}
