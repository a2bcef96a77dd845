/** Long runs of calls, made from a number, on a ShardEngine and on the Model: they must answer alike. */
final class ModelTests {
    private static final int RUNS = 3000;
    private static final int CALLS = 512;
    private static final int MOST_OF_A_STEP = 150;

    private long state;
    private ShardEngine x = new ShardEngine();
    private Model y = new Model();
    private int calls = 0;
    private int generation;
    private int recordAt;

    private ModelTests(long seed) {
        state = seed * 0x9E3779B97F4A7C15L + 1;
    }

    static void run() {
        Check.test("all promises: long runs against the model", ModelTests::longRuns);
    }

    private static void longRuns() {
        for (int seed = 0; seed < RUNS && Check.allRight(); seed++) {
            new ModelTests(seed).longRun(seed);
        }
    }

    private void longRun(int seed) {
        int mood = next(4);
        while (calls < CALLS - MOST_OF_A_STEP && Check.allRight()) {
            step(mood);
            if (next(12) == 0) {
                look();
            }
            if (next(40) == 0) {
                mood = next(4);
            }
        }
        Check.holds("run " + seed, Check.allRight());
    }

    /** A number 0 .. bound - 1, always the same ones for a seed. */
    private int next(int bound) {
        state = state * 6364136223846793005L + 1442695040888963407L;
        return (int) ((state >>> 33) % bound);
    }

    private int wild(int low, int high) {
        int[] far = {low - 1, high + 1, Integer.MIN_VALUE, Integer.MAX_VALUE};
        return next(30) == 0 ? far[next(4)] : low + next(high - low + 1);
    }

    private void same(String call, long got, long want) {
        calls++;
        Check.due("call " + calls + ": " + call, got, want);
    }

    private void step(int mood) {
        switch (next(mood == 0 ? 8 : 16)) {
            case 0:
            case 1:
                write();
                break;
            case 2:
            case 3:
            case 4:
                replica();
                break;
            case 5:
                ask();
                break;
            case 6:
                find();
                break;
            case 7:
                read();
                break;
            case 8:
                same("fill", x.fill(), y.fill());
                break;
            case 9:
                same("refresh", x.refresh(), y.refresh());
                break;
            case 10:
                sync();
                break;
            case 11:
                same("flush", x.flush(), y.flush());
                break;
            case 12:
                flip();
                break;
            case 13:
                same("stray recover", x.recover(0), y.recover(0));
                break;
            default:
                if (next(3) == 0) {
                    crash();
                }
        }
    }

    private long source() {
        long source = 0;
        int words = next(9);
        for (int i = 0; i < words; i++) {
            source |= (long) (next(8) == 0 ? next(16) : 1 + next(3)) << (32 + 4 * i);
        }
        int number = next(5) == 0 ? (next(2) == 0 ? Integer.MIN_VALUE : Integer.MAX_VALUE) : next(7) - 3;
        return source | (number & 0xFFFFFFFFL);
    }

    private void write() {
        int kind = next(20) == 0 ? wild(1, 2) : 1 + next(3) / 2;
        int id = wild(0, 15);
        int ifSeq = next(3) > 0 ? -1 : next(3) == 0 ? -2 : next(4) == 0 ? next(200) - 4 : y.known(id, 1);
        long source = source();
        same("write " + kind + " " + id + " " + ifSeq, x.write(kind, id, source, ifSeq),
            y.write(kind, id, source, ifSeq));
    }

    private void replica() {
        int kind = wild(1, 3);
        int id = wild(0, 15);
        int reach = next(6) == 0 ? 70 : 5;
        int seq = next(40) == 0 ? wild(0, 9) : y.info(1) + next(reach);
        int version = next(10) == 0 ? 60001 - next(4) : wild(1, 60000);
        long source = source();
        same("replica " + kind + " " + id + " " + seq + " " + version, x.replica(kind, id, seq, version, source),
            y.replica(kind, id, seq, version, source));
    }

    private void sync() {
        boolean roll = next(3) == 0;
        same("sync " + roll, x.sync(roll), y.sync(roll));
    }

    private void ask() {
        ask(7, 0, 0);
        int wanted = 1;
        int most = next(6) == 0 ? 16 : next(8);
        for (int i = 0; wanted > 0 && i < 17; i++) {
            int kind = i < most ? (next(3) == 0 ? next(4) : 4 + next(3)) : next(4);
            wanted += kind == 4 || kind == 5 ? 1 : kind == 6 ? 0 : -1;
            askToken(kind);
        }
        if (next(12) == 0) {
            askToken(wild(0, 6));
        }
    }

    private void askToken(int kind) {
        int a = kind == 3 ? next(7) - 3 : next(20) == 0 ? wild(1, 15) : 1 + next(3);
        int b = kind == 3 ? a + next(5) - 1 : next(20) == 0 ? wild(1, 15) : 1 + next(3);
        ask(kind, kind == 3 && next(6) == 0 ? Integer.MIN_VALUE : a, b);
    }

    private void ask(int kind, int a, int b) {
        same("ask " + kind + " " + a + " " + b, x.ask(kind, a, b), y.ask(kind, a, b));
    }

    private void find() {
        int sort = wild(0, 2);
        for (int k = -2; k < 4; k++) {
            same("hit " + sort + " " + k, x.hit(sort, k), y.hit(sort, k));
        }
        int id = wild(0, 15);
        same("score " + id, x.score(id), y.score(id));
        int last = y.hit(sort, next(5));
        int key = last < 0 || next(3) == 0 ? wild(-4, 9) : sort == 0 ? y.score(last) : (int) y.get(last);
        int from = last >= 0 ? last : wild(0, 15);
        same("after " + sort + " " + key + " " + from, x.after(sort, key, from), y.after(sort, key, from));
    }

    private void read() {
        int id = wild(0, 15);
        int what = wild(0, 4);
        same("get " + id, x.get(id), y.get(id));
        same("known " + id + " " + what, x.known(id, what), y.known(id, what));
    }

    private void look() {
        for (int what = 0; what < 11; what++) {
            same("info " + what, x.info(what), y.info(what));
        }
        int id = next(16);
        for (int what = 0; what < 5; what++) {
            same("known " + id + " " + what, x.known(id, what), y.known(id, what));
        }
        same("get " + id, x.get(id), y.get(id));
    }

    private void flip() {
        int number = y.info(4) + next(5) - (next(20) == 0 ? 1 : 0);
        int at = wild(0, 239);
        int bits = wild(0, 255);
        same("flip " + number + " " + at + " " + bits, x.flip(number, at, bits), y.flip(number, at, bits));
        if (next(4) > 0) {
            same("flip back " + number + " " + at, x.flip(number, at, bits), y.flip(number, at, bits));
        }
    }

    private void crash() {
        int unsynced = y.info(5) - y.info(6);
        int keep = next(20) == 0 ? next(300) - 30 : next(3) == 0 ? unsynced : next(unsynced + 1);
        same("crash " + keep, x.crash(keep), y.crash(keep));
        if (y.info(7) == 0) {
            return;
        }
        if (next(3) == 0) {
            forge();
        }
        for (int i = 0; i < 6 && y.info(7) == 1; i++) {
            int stop = next(3) == 0 ? next(8) : -1 - next(2);
            same("recover " + stop, x.recover(stop), y.recover(stop));
            if (next(6) == 0) {
                look();
            }
            if (next(4) == 0) {
                step(1);
            }
        }
        if (y.info(7) == 1 && next(4) > 0) {
            x = new ShardEngine();
            y = new Model();
        }
    }

    /** Changes a record of the log so that it stays sound, but for what is changed. */
    private void forge() {
        if (!chooseRecord()) {
            return;
        }
        int inner = y.flip(generation, recordAt, 0);
        int offset = 1 + next(inner);
        int old = y.flip(generation, recordAt + offset, 0);
        int value = next(6) == 0 ? next(256) : offset <= 2 ? old + next(5) - 2 & 255 : next(17);
        put(recordAt + offset, value);
        if (offset == 1 && next(2) == 0) {
            inner = value == 1 ? 14 : value == 2 ? 6 : 3;
            put(recordAt, inner);
        }
        CRC32Sealer sealer = new CRC32Sealer();
        for (int i = 0; i <= inner; i++) {
            sealer.add(y.flip(generation, recordAt + i, 0));
        }
        for (int i = 0; i < 4; i++) {
            put(recordAt + inner + 1 + i, sealer.valueByte(i));
        }
    }

    private boolean chooseRecord() {
        generation = y.info(4) + next(y.info(3));
        recordAt = 0;
        int skip = next(10);
        for (int i = 0; i < 40; i++) {
            int inner = y.flip(generation, recordAt, 0);
            if (inner < 3 || y.flip(generation, recordAt + inner + 4, 0) < 0) {
                return false;
            }
            int behind = recordAt + inner + 5;
            if (i >= skip || y.flip(generation, behind, 0) < 0) {
                return true;
            }
            recordAt = behind;
        }
        return false;
    }

    private void put(int at, int value) {
        int bits = Math.max(y.flip(generation, at, 0), 0) ^ value;
        same("forge " + generation + " " + at + " " + bits, x.flip(generation, at, bits),
            y.flip(generation, at, bits));
    }

    private static final class CRC32Sealer {
        private final java.util.zip.CRC32 crc = new java.util.zip.CRC32();

        void add(int value) {
            crc.update(value);
        }

        int valueByte(int i) {
            return (int) (crc.getValue() >>> (8 * i)) & 255;
        }
    }
}
