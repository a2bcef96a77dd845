/** Sentences of the terms on the log and its records, and of promises 8, 9, 10 and 12: sync, flush, crash, flip. */
final class LogSentences {
    private static final long SOURCE = Sources.source(0x44332211, 5, 6, 7, 8, 9, 10, 11, 12);
    private static final String TERMS = "terms";

    private LogSentences() {
    }

    static void run() {
        log();
        records();
        syncs();
        flushes();
        crashes();
    }

    private static void log() {
        Sentence.test(TERMS, "THE LOG is a row of at most 4 GENERATIONS,",
            "the fourth begins, a fifth does not", LogSentences::atMostFour);
        Sentence.test(TERMS, "numbered 0, 1, .. as they begin,",
            "a number does not come back", LogSentences::generationNumbers);
        Sentence.test(TERMS, "each of at most 240 bytes;", "the 240th, not a 241st", LogSentences::mostBytes);
        Sentence.test(TERMS, "it begins with generation 0, empty.", "no byte, no other", LogSentences::firstGeneration);
        Sentence.test(TERMS, "The last one is CURRENT: its bytes up to some place are SYNCED, those behind not; all of "
            + "the others are synced.", "what a crash may take", LogSentences::syncedBytes);
        Sentence.test(TERMS, "PERSISTED is what CHECKPOINT was when the current generation was synced last (also by "
            + "flush and recover; -1 at first).", "each of them, with a gap below MAX", LogSentences::persisted);
    }

    private static void records() {
        Sentence.test(TERMS, "An operation that is processed appends its RECORD to the current one:",
            "one that is not processed appends none", LogSentences::whatAppends);
        Sentence.test(TERMS, "a byte L, a byte kind, the SEQ (2 bytes);",
            "SEQ 0, 255, 256, 257", LogSentences::seqBytes);
        Sentence.test(TERMS, "the id (1 byte) and the VERSION (2);",
            "ids 0 and 15, VERSION 1, 255, 256, 60000", LogSentences::idAndVersionBytes);
        Sentence.test(TERMS, "the source (8); as far as its kind has them;",
            "0, all bits, each byte its own; none", LogSentences::sourceBytes);
        Sentence.test(TERMS, "L is how many bytes there are behind it up to here (3, 6 or 14);",
            "each kind", LogSentences::lengthBytes);
        Sentence.test(TERMS, "and the CRC-32 (4) of all these bytes and L: begin with all 32 bits 1; for each byte: "
            + "exclusive or with it, then eight times shift right by one, with exclusive or by EDB88320 (hexadecimal) "
            + "if the bit that fell out was 1; in the end all bits turned.",
            "step by step, each kind", LogSentences::crcBytes);
        Sentence.test(TERMS, "The lowest bytes come first everywhere.",
            "SEQ, VERSION, source, CRC", LogSentences::lowestFirst);
    }

    private static void syncs() {
        String place = "promise 8";
        Sentence.test(place, "The current generation is synced: how many bytes were not;",
            "0, 240, only the new ones", LogSentences::syncCounts);
        Sentence.test(place, "with roll another one begins then, which is current: its number.",
            "of an empty one too", LogSentences::rolls);
        Sentence.test(place, "FULL if there are 4 and another one should begin.",
            "3, 4, 4 without roll", LogSentences::syncFull);
    }

    private static void flushes() {
        String place = "promise 9";
        Sentence.test(place, "The current generation is synced; the COMMIT is made;",
            "what a crash may take then", LogSentences::flushSyncs);
        Sentence.test(place, "generations, from the oldest on, that have only records",
            "one behind one that stays; empty", LogSentences::fromTheOldest);
        Sentence.test(place, "(as they were appended", "flips change nothing of it", LogSentences::asAppended);
        Sentence.test(place, "or gone through at the latest recovery)",
            "flips, what was cut off, a recovery that was stopped", LogSentences::asGoneThrough);
        Sentence.test(place, "with SEQ up to CHECKPOINT go (perhaps all);",
            "at CHECKPOINT, above it, not the last record", LogSentences::upToCheckpoint);
        Sentence.test(place, "another one begins: how many went.", "0 to 4", LogSentences::howManyWent);
        Sentence.test(place, "FULL if 4 stay.", "3 stay, 4 stay", LogSentences::flushFull);
    }

    private static void crashes() {
        String place = "promise 10";
        Sentence.test(place, "Of the bytes that are not synced only the first so many stay (still not synced),",
            "0, some, all", LogSentences::crashKeeps);
        Sentence.test(place, "all that is not log, commit and query is lost:",
            "what is known and visible; the query stays", LogSentences::crashLoses);
        Sentence.test(place, "how many bytes were lost.", "0, all, none there", LogSentences::crashCounts);
        Sentence.test(place, "REFUSED if there are not as many.",
            "-1, one too many, synced ones do not count", LogSentences::crashRefuses);
        place = "promise 12";
        Sentence.test(place, "Byte at of a generation (by its number) is changed by exclusive or with",
            "the first and the last byte, the oldest and the current generation", LogSentences::flipPlaces);
        Sentence.test(place, "x (0 .. 255): what it is then.", "-1, 0, 255, 256", LogSentences::flipBits);
    }

    private static void atMostFour() {
        ShardEngine x = new ShardEngine();
        for (int number = 1; number <= 3; number++) {
            Check.due("begins", x.sync(true), number);
        }
        Check.due("a fifth by sync", x.sync(true), -3);
        Check.due("four", x.info(3), 4);
        x.replica(3, 0, 1, 0, 0L);
        Check.due("the first three go", x.flush(), 3);
        x.replica(3, 0, 3, 0, 0L);
        Check.due("two", x.info(3), 2);
        Check.due("three", x.flush(), 0);
        Check.due("four", x.flush(), 0);
        Check.due("a fifth by flush", x.flush(), -3);
        Check.due("four", x.info(3), 4);
    }

    private static void generationNumbers() {
        ShardEngine x = new ShardEngine();
        for (int number = 1; number <= 9; number++) {
            Check.due("the one before goes", x.flush(), 1);
            Check.due("its number", x.info(4), number);
        }
        Check.due("the next", x.sync(true), 10);
        x.crash(0);
        x.recover(-1);
        Check.due("after a recovery", x.sync(true), 11);
        Check.due("the oldest", x.info(4), 9);
    }

    private static void mostBytes() {
        ShardEngine x = Sources.filled(232);
        int seq = x.info(0) + 1;
        Check.due("up to the 240th", x.replica(3, 0, seq, 0, 0L), 2);
        Check.due("bytes", x.info(5), 240);
        Check.holds("the 240th", x.flip(0, 239, 0) >= 0);
        Check.due("no 241st", x.flip(0, 240, 0), -1);
        Check.due("nor another record", x.replica(3, 0, seq + 1, 0, 0L), -3);
        x = Sources.filled(233);
        Check.due("beyond the 240th", x.replica(3, 0, x.info(0) + 1, 0, 0L), -3);
        x = Sources.filled(240);
        x.sync(true);
        Check.due("in another", x.write(1, 0, 1L, -1), x.info(0));
        Check.due("the first has all of its bytes", Look.bytesOf(x, 0).size(), 240);
        Check.due("the next its own", Look.bytesOf(x, 1).size(), 19);
        x.crash(19);
        Check.due("all are read again", x.recover(-1), x.info(0) + 1);
    }

    private static void firstGeneration() {
        ShardEngine x = new ShardEngine();
        Check.due("how many", x.info(3), 1);
        Check.due("its number", x.info(4), 0);
        Check.due("its bytes", x.info(5), 0);
        Check.due("synced", x.info(6), 0);
        Check.due("no byte", x.flip(0, 0, 0), -1);
        Check.due("no other", x.flip(1, 0, 0), -1);
        Check.due("no other", x.flip(-1, 0, 0), -1);
    }

    private static void syncedBytes() {
        ShardEngine x = new ShardEngine();
        x.write(1, 0, SOURCE, -1);
        x.sync(true);
        x.write(1, 1, SOURCE, -1);
        x.sync(false);
        x.write(1, 2, SOURCE, -1);
        x.write(1, 3, SOURCE, -1);
        Check.due("those behind the place", x.crash(0), 38);
        Check.due("those up to it stay", x.info(5), 19);
        Check.due("all of the other one stay", Look.bytesOf(x, 0).size(), 19);
        x.flip(0, 18, 1);
        Check.due("the last byte of the other is synced", x.recover(-1), -5);
        x.flip(0, 18, 1);
        x.flip(1, 18, 1);
        Check.due("the last byte up to the place is", x.recover(-1), -5);
    }

    private static void persisted() {
        ShardEngine x = new ShardEngine();
        Check.due("at first", x.info(2), -1);
        x.write(1, 0, SOURCE, -1);
        x.replica(3, 0, 2, 0, 0L);
        Check.due("not synced", x.info(2), -1);
        x.sync(false);
        Check.due("synced: CHECKPOINT, not MAX", x.info(2), 0);
        x.replica(3, 0, 1, 0, 0L);
        Check.due("what it was", x.info(2), 0);
        x.flush();
        Check.due("flush", x.info(2), 2);
        x.replica(3, 0, 3, 0, 0L);
        x.replica(3, 0, 5, 0, 0L);
        x.crash(16);
        x.recover(-1);
        Check.due("recover", x.info(2), 3);
        x.refresh();
        x.write(1, 0, SOURCE, -1);
        Check.due("neither refresh nor write", x.info(2), 3);
    }

    private static void whatAppends() {
        ShardEngine x = new ShardEngine();
        x.write(1, 0, SOURCE, -1);
        Check.due("INDEX", x.info(5), 19);
        x.write(2, 0, SOURCE, -1);
        Check.due("DELETE", x.info(5), 30);
        x.replica(3, 0, 2, 0, 0L);
        Check.due("NOTHING", x.info(5), 38);
        x.replica(1, 0, 2, 1, 0L);
        x.write(1, 0, 0L, 5);
        x.write(3, 0, 0L, -1);
        x.replica(1, 16, 4, 1, 0L);
        Check.due("what is not processed", x.info(5), 38);
        x.replica(1, 0, 5, 1, SOURCE);
        x.replica(1, 0, 4, 1, SOURCE);
        Check.due("though nothing else is known by it", x.info(5), 76);
        x.fill();
        Check.due("fill", x.info(5), 84);
        x.sync(true);
        x.write(2, 0, 0L, -1);
        Check.due("only to the current one", Look.bytesOf(x, 0).size(), 84);
        Check.due("only to the current one", x.info(5), 11);
        x.refresh();
        x.crash(11);
        x.recover(-1);
        Check.due("neither refresh nor recover", x.info(5), 11);
    }

    private static void sameBytes(ShardEngine x, int generation, int at, int... want) {
        for (int i = 0; i < want.length; i++) {
            Check.due("byte " + (at + i), Sources.byteAt(x, generation, at + i), want[i]);
        }
    }

    private static void seqBytes() {
        ShardEngine x = new ShardEngine();
        x.write(2, 0, 0L, -1);
        sameBytes(x, 0, 0, 6, 2, 0, 0);
        x.flush();
        while (x.info(0) < 254) {
            x.replica(3, 0, Math.min(x.info(1) + 30, 254), 0, 0L);
            x.fill();
            x.flush();
        }
        int number = x.info(4);
        x.write(2, 0, 0L, -1);
        x.write(2, 0, 0L, -1);
        x.write(2, 0, 0L, -1);
        sameBytes(x, number, 0, 6, 2, 255, 0);
        sameBytes(x, number, 11, 6, 2, 0, 1);
        sameBytes(x, number, 22, 6, 2, 1, 1);
        x.crash(33);
        Check.due("read again", x.recover(-1), 3);
        Check.due("MAX", x.info(0), 257);
    }

    private static void idAndVersionBytes() {
        ShardEngine x = new ShardEngine();
        x.replica(2, 0, 0, 1, 0L);
        x.replica(2, 15, 1, 255, 0L);
        x.replica(1, 15, 2, 256, 0L);
        x.replica(1, 7, 3, 60000, 0L);
        sameBytes(x, 0, 4, 0, 1, 0);
        sameBytes(x, 0, 15, 15, 255, 0);
        sameBytes(x, 0, 26, 15, 0, 1);
        sameBytes(x, 0, 45, 7, 0x60, 0xEA);
    }

    private static void sourceBytes() {
        ShardEngine x = new ShardEngine();
        long[] sources = {0L, -1L, 0x0123456789ABCDEFL};
        for (int i = 0; i < sources.length; i++) {
            x.write(1, 0, sources[i], -1);
        }
        sameBytes(x, 0, 7, 0, 0, 0, 0, 0, 0, 0, 0);
        sameBytes(x, 0, 26, 255, 255, 255, 255, 255, 255, 255, 255);
        sameBytes(x, 0, 45, 0xEF, 0xCD, 0xAB, 0x89, 0x67, 0x45, 0x23, 0x01);
        ShardEngine y = new ShardEngine();
        y.write(2, 0, -1L, -1);
        y.replica(3, 0, 1, 1, -1L);
        Check.due("DELETE and NOTHING have none", y.info(5), 19);
    }

    private static void lengthBytes() {
        ShardEngine x = new ShardEngine();
        x.replica(3, 0, 0, 1, 0L);
        x.replica(2, 0, 1, 1, 0L);
        x.replica(1, 0, 2, 1, 0L);
        sameBytes(x, 0, 0, 3, 3);
        sameBytes(x, 0, 8, 6, 2);
        sameBytes(x, 0, 19, 14, 1);
        Check.due("behind each there are its bytes and the CRC", x.info(5), 3 + 6 + 14 + 3 * 5);
    }

    /** The checksum as the document says it, bit by bit. */
    private static int crcOf(ShardEngine x, int at, int count) {
        boolean[] bits = new boolean[32];
        java.util.Arrays.fill(bits, true);
        for (int i = 0; i < count; i++) {
            int b = Sources.byteAt(x, 0, at + i);
            for (int bit = 0; bit < 8; bit++) {
                bits[bit] ^= (b >> bit & 1) == 1;
            }
            for (int round = 0; round < 8; round++) {
                boolean fell = bits[0];
                for (int bit = 0; bit < 32; bit++) {
                    bits[bit] = (bit < 31 && bits[bit + 1]) ^ (fell && (0xEDB88320 >>> bit & 1) == 1);
                }
            }
        }
        int crc = 0;
        for (int bit = 0; bit < 32; bit++) {
            crc |= bits[bit] ? 0 : 1 << bit;
        }
        return crc;
    }

    private static void sameCrc(ShardEngine x, int at, int count) {
        int crc = crcOf(x, at, count);
        sameBytes(x, 0, at + count, crc & 255, crc >>> 8 & 255, crc >>> 16 & 255, crc >>> 24);
    }

    private static void crcBytes() {
        ShardEngine x = new ShardEngine();
        x.write(1, 0, 8590065664L, -1);
        sameBytes(x, 0, 15, 90, 248, 172, 175);
        sameCrc(x, 0, 15);
        x.write(2, 15, -1L, -1);
        sameCrc(x, 19, 7);
        x.replica(3, 0, 2, 1, 0L);
        sameCrc(x, 30, 4);
        x.write(1, 9, -1L, -1);
        sameCrc(x, 38, 15);
        x.write(1, 9, SOURCE, -1);
        sameCrc(x, 57, 15);
    }

    private static void lowestFirst() {
        ShardEngine x = new ShardEngine();
        x.replica(1, 13, 62, 0x1234, SOURCE);
        sameBytes(x, 0, 0, 14, 1, 62, 0, 13, 0x34, 0x12, 0x11, 0x22, 0x33, 0x44, 0x65, 0x87, 0xA9, 0xCB);
        sameCrc(x, 0, 15);
    }

    private static void syncCounts() {
        ShardEngine x = Sources.filled(240);
        Check.due("all", x.sync(false), 240);
        Check.due("none", x.sync(false), 0);
        Check.due("synced", x.info(6), 240);
        ShardEngine y = new ShardEngine();
        Check.due("of an empty one", y.sync(false), 0);
        y.write(1, 0, SOURCE, -1);
        y.sync(false);
        y.write(2, 0, SOURCE, -1);
        Check.due("only the new ones", y.sync(false), 11);
        y.write(2, 0, SOURCE, -1);
        y.sync(true);
        Check.due("none of the next", y.sync(false), 0);
        y.write(2, 0, SOURCE, -1);
        y.crash(11);
        y.recover(-1);
        Check.due("none behind a recovery", y.sync(false), 0);
    }

    private static void rolls() {
        ShardEngine x = new ShardEngine();
        Check.due("behind an empty one", x.sync(true), 1);
        x.write(1, 0, SOURCE, -1);
        Check.due("its number, not its bytes", x.sync(true), 2);
        Check.due("it is current", x.info(5), 0);
        Check.due("none of it is synced", x.info(6), 0);
        x.crash(0);
        Check.due("what was before it was synced", x.recover(-1), 1);
    }

    private static void syncFull() {
        ShardEngine x = new ShardEngine();
        x.sync(true);
        x.sync(true);
        Check.due("there are 3", x.sync(true), 3);
        x.write(1, 0, SOURCE, -1);
        Check.due("there are 4", x.sync(true), -3);
        Check.due("so it is not synced", x.info(6), 0);
        Check.due("nor PERSISTED", x.info(2), -1);
        Check.due("without roll", x.sync(false), 19);
        Check.due("there are 4", x.sync(true), -3);
    }

    private static void flushSyncs() {
        ShardEngine x = new ShardEngine();
        x.write(1, 0, SOURCE, -1);
        x.replica(1, 1, 2, 5, SOURCE);
        Check.due("it stays", x.flush(), 0);
        Check.due("none to lose", x.crash(0), 0);
        Check.due("its bytes stay", Look.bytesOf(x, 0).size(), 38);
        x.flip(0, 37, 1);
        Check.due("its last byte is synced", x.recover(-1), -5);
        x.flip(0, 37, 1);
        Check.due("the commit is made", x.recover(-1), 1);
        Check.due("CHECKPOINT", x.info(1), 0);
    }

    private static void fromTheOldest() {
        ShardEngine x = new ShardEngine();
        x.write(1, 0, SOURCE, -1);
        x.sync(true);
        x.replica(1, 1, 2, 5, SOURCE);
        x.sync(true);
        x.sync(true);
        Check.due("one goes, the one with SEQ 2 and those behind it stay", x.flush(), 1);
        Check.due("the oldest", x.info(4), 1);
        Check.due("four", x.info(3), 4);
        x.fill();
        Check.due("all of them, empty ones too", x.flush(), 4);
        ShardEngine y = new ShardEngine();
        y.replica(3, 0, 1, 0, 0L);
        y.sync(true);
        y.write(1, 0, SOURCE, -1);
        y.replica(3, 0, 0, 0, 0L);
        y.replica(3, 0, 4, 0, 0L);
        Check.due("the oldest goes, the current one stays", y.flush(), 1);
        Check.due("two", y.info(3), 2);
    }

    private static void asAppended() {
        ShardEngine x = new ShardEngine();
        x.write(2, 0, 0L, -1);
        Sources.forge(x, 0, 0, 2, 60);
        Check.due("its SEQ was 0", x.flush(), 1);
        ShardEngine y = new ShardEngine();
        y.replica(2, 0, 60, 1, 0L);
        Sources.forge(y, 0, 0, 2, 0);
        Check.due("its SEQ was 60", y.flush(), 0);
        ShardEngine z = new ShardEngine();
        z.replica(2, 0, 60, 1, 0L);
        z.flip(0, 0, 255);
        z.flip(0, 10, 255);
        Check.due("broken since", z.flush(), 0);
    }

    private static void asGoneThrough() {
        ShardEngine x = new ShardEngine();
        x.write(2, 0, 0L, -1);
        x.sync(false);
        Sources.forge(x, 0, 0, 2, 60);
        Sources.recovered(x);
        Check.due("its SEQ is 60", x.flush(), 0);
        ShardEngine y = new ShardEngine();
        y.replica(2, 0, 60, 1, 0L);
        y.sync(false);
        Sources.forge(y, 0, 0, 2, 0);
        Sources.recovered(y);
        Check.due("its SEQ is 0", y.flush(), 1);
        ShardEngine z = new ShardEngine();
        z.write(2, 0, 0L, -1);
        z.replica(2, 0, 60, 1, 0L);
        z.crash(21);
        z.recover(-1);
        Check.due("what was cut off was not gone through", z.flush(), 1);
        ShardEngine w = new ShardEngine();
        w.replica(3, 0, 0, 0, 0L);
        w.replica(3, 0, 5, 0, 0L);
        w.flush();
        Sources.recovered(w);
        w.crash(0);
        Check.due("a recovery that is stopped", w.recover(0), -4);
        w.recover(-1);
        Check.due("SEQ 5 was gone through again", w.flush(), 0);
        w.fill();
        Check.due("CHECKPOINT is there", w.flush(), 3);
    }

    private static void upToCheckpoint() {
        ShardEngine x = new ShardEngine();
        x.replica(3, 0, 1, 0, 0L);
        x.replica(3, 0, 0, 0, 0L);
        Check.due("at CHECKPOINT", x.flush(), 1);
        x.replica(3, 0, 3, 0, 0L);
        Check.due("2 above CHECKPOINT", x.flush(), 0);
        x.replica(3, 0, 5, 0, 0L);
        x.replica(3, 0, 2, 0, 0L);
        Check.due("the greatest of the second is above, that of the first is not", x.flush(), 1);
        Check.due("two", x.info(3), 2);
        x.replica(3, 0, 4, 0, 0L);
        Check.due("perhaps all", x.flush(), 2);
        Check.due("one", x.info(3), 1);
    }

    private static void howManyWent() {
        for (int count = 0; count <= 4; count++) {
            ShardEngine x = new ShardEngine();
            for (int i = 1; i < count; i++) {
                x.sync(true);
            }
            if (count == 0) {
                x.replica(3, 0, 1, 0, 0L);
            }
            int number = Math.max(count, 1);
            Check.due("went", x.flush(), count);
            Check.due("the oldest", x.info(4), count);
            Check.due("another one is current", Look.current(x), number);
            Check.due("it is empty", x.info(5), 0);
        }
    }

    private static void flushFull() {
        ShardEngine x = new ShardEngine();
        x.write(1, 0, SOURCE, -1);
        x.sync(true);
        x.replica(3, 0, 2, 0, 0L);
        x.sync(true);
        x.sync(true);
        Check.due("3 of 4 stay", x.flush(), 1);
        Check.due("four again", x.info(3), 4);
        x.write(1, 0, SOURCE, -1);
        Check.due("4 stay", x.flush(), -3);
        Check.due("not synced", x.info(6), 0);
        Check.due("no commit", x.info(9), 2);
        x.crash(0);
        Check.due("nor what it would hold", x.recover(-1), 1);
        Check.due("MAX", x.info(0), 2);
        x.fill();
        Check.due("none stays", x.flush(), 4);
    }

    private static void crashKeeps() {
        for (int keep = 0; keep <= 30; keep++) {
            ShardEngine x = new ShardEngine();
            x.replica(3, 0, 0, 0, 0L);
            x.sync(false);
            x.write(1, 0, SOURCE, -1);
            x.write(2, 1, SOURCE, -1);
            int first = Sources.byteAt(x, 0, 8);
            x.crash(keep);
            Check.due("stay", x.info(5), 8 + keep);
            Check.due("still not synced", x.info(6), 8);
            Check.due("the first ones", x.flip(0, 8, 0), keep > 0 ? first : -1);
            Check.due("none behind", x.flip(0, 8 + keep, 0), -1);
            Check.due("recover", x.recover(-1), keep < 19 ? 1 : keep < 30 ? 2 : 3);
        }
    }

    private static void crashLoses() {
        ShardEngine x = new ShardEngine();
        x.write(1, 0, SOURCE, -1);
        x.flush();
        x.write(1, 1, SOURCE, -1);
        x.refresh();
        x.ask(0, 0, 0);
        x.crash(0);
        Check.due("the query stays", x.ask(6, 0, 0), 2);
        x.ask(7, 0, 0);
        x.ask(0, 0, 0);
        Check.due("the commit stays", x.info(8), 0);
        x.recover(-1);
        Check.due("what is known", x.known(1, 0), 0);
        Check.due("what is visible", x.hit(0, -1), 1);
        Check.due("MAX", x.info(0), 0);
        Check.due("PERSISTED", x.info(2), 0);
    }

    private static void crashCounts() {
        Check.due("none there", new ShardEngine().crash(0), 0);
        Check.due("all 240", Sources.filled(240).crash(0), 240);
        Check.due("all but one", Sources.filled(240).crash(1), 239);
        Check.due("one", Sources.filled(240).crash(239), 1);
        Check.due("none", Sources.filled(240).crash(240), 0);
    }

    private static void crashRefuses() {
        ShardEngine x = new ShardEngine();
        Check.due("one of none", x.crash(1), -1);
        x.write(1, 0, SOURCE, -1);
        x.sync(false);
        Check.due("synced ones do not count", x.crash(1), -1);
        x.write(2, 0, SOURCE, -1);
        int[] wrong = {12, -1, Integer.MIN_VALUE, Integer.MAX_VALUE, Integer.MAX_VALUE - 18};
        for (int keep : wrong) {
            Check.due("keep " + keep, x.crash(keep), -1);
            Check.due("up", x.info(7), 0);
        }
        Check.due("all of them", x.crash(11), 0);
    }

    private static void flipPlaces() {
        ShardEngine x = new ShardEngine();
        x.flush();
        x.write(1, 0, SOURCE, -1);
        x.replica(3, 0, 5, 0, 0L);
        for (int number = 2; number <= 4; number++) {
            x.sync(true);
            x.write(2, 0, SOURCE, -1);
        }
        Check.due("the first byte of the oldest", x.flip(1, 0, 1), 15);
        Check.due("the kind behind it", x.flip(1, 1, 2), 3);
        Check.holds("the last byte of the oldest", x.flip(1, 26, 0) >= 0);
        Check.due("one more", x.flip(1, 27, 0), -1);
        Check.due("the first of the current", x.flip(4, 0, 0), 6);
        Check.holds("the last of the current", x.flip(4, 10, 0) >= 0);
        Check.due("one more", x.flip(4, 11, 0), -1);
        int[][] wrong = {{0, 0}, {5, 0}, {-1, 0}, {1, -1}, {Integer.MIN_VALUE, 0}, {Integer.MAX_VALUE, 0},
            {1, Integer.MIN_VALUE}, {1, Integer.MAX_VALUE}, {8, 0}};
        for (int[] w : wrong) {
            Check.due("flip(" + w[0] + ", " + w[1] + ", 0)", x.flip(w[0], w[1], 0), -1);
        }
        x.crash(3);
        Check.holds("DOWN: what stays", x.flip(4, 2, 0) >= 0);
        Check.due("DOWN: what is lost", x.flip(4, 3, 0), -1);
    }

    private static void flipBits() {
        ShardEngine x = new ShardEngine();
        x.write(1, 0, 0xA5L, -1);
        Check.due("0 shows it", x.flip(0, 7, 0), 0xA5);
        Check.due("255 turns all", x.flip(0, 7, 255), 0x5A);
        Check.due("what it is then", x.flip(0, 7, 0), 0x5A);
        Check.due("one bit", x.flip(0, 7, 128), 0xDA);
        int[] wrong = {-1, 256, Integer.MIN_VALUE, Integer.MAX_VALUE};
        for (int bits : wrong) {
            Check.due("x " + bits, x.flip(0, 7, bits), -1);
        }
        Check.due("not changed by them", x.flip(0, 7, 0), 0xDA);
        Check.due("nor any other", x.flip(0, 8, 0), 0);
        Check.due("nor what is known", x.get(0), 0xA5);
    }
}
