/**
 * One shard of a search server, as shared/DOC.md describes it.
 *
 * All arrays are made once, in the constructors, because what the calls of a run make is counted.
 */
public final class ShardEngine {
    public static final int REFUSED = -1, CONFLICT = -2, FULL = -3, DOWN = -4, CORRUPT = -5;

    private static final int INDEX = 1, DELETE = 2, NOTHING = 3;
    private static final int IDS = 16;
    private static final int WINDOW = 64;
    private static final int NONE = -1;
    private static final int GREATEST_REPLICA_VERSION = 60000;

    private static final int GENERATIONS = 4;
    private static final int CAPACITY = 240;
    private static final int FRAME = 5;
    private static final int LEAST_RECORD = 8;

    private static final int ALL = 0, WORD = 1, PHRASE = 2, RANGE = 3, AND = 4, OR = 5, NOT = 6, EMPTY = 7;
    private static final int TOKENS = 15;
    private static final int WORDS = 8;

    private static final int BY_SCORE = 0, BY_NUMBER = 1, BY_NUMBER_DOWN = 2;

    private final Knowledge live = new Knowledge();
    private final Knowledge commit = new Knowledge();
    private final Documents refreshed = new Documents();
    private final Log log = new Log();
    private final Query query = new Query();
    private final Operation operation = new Operation();
    private final int[] scores = new int[IDS];
    private int persisted = NONE;
    private int replayed = 0;
    private boolean down = false;

    public ShardEngine() {
    }

    public int write(int kind, int id, long source, int ifSeq) {
        if (down) {
            return DOWN;
        }
        if ((kind != INDEX && kind != DELETE) || !isId(id) || ifSeq < -2) {
            return REFUSED;
        }
        if (!holds(id, ifSeq)) {
            return CONFLICT;
        }
        int seq = live.max + 1;
        if (log.room() < sizeOf(kind) || seq > live.checkpoint + WINDOW) {
            return FULL;
        }
        int version = (live.documents.versionOf(id) + 1) & 0xFFFF;
        operation.become(kind, seq, id, version, source);
        append();
        return seq;
    }

    public int replica(int kind, int id, int seq, int version, long source) {
        if (down) {
            return DOWN;
        }
        if (sizeOf(kind) == 0 || seq < 0 || seq > live.checkpoint + WINDOW) {
            return REFUSED;
        }
        if (kind != NOTHING && (!isId(id) || version < 1 || version > GREATEST_REPLICA_VERSION)) {
            return REFUSED;
        }
        if (live.isProcessed(seq)) {
            return 0;
        }
        if (log.room() < sizeOf(kind)) {
            return FULL;
        }
        operation.become(kind, seq, id, version, source);
        return append() ? 1 : 2;
    }

    public int fill() {
        if (down) {
            return DOWN;
        }
        int missing = live.countMissing();
        if (log.room() < missing * sizeOf(NOTHING)) {
            return FULL;
        }
        int last = live.max;
        for (int seq = live.checkpoint + 1; seq <= last; seq++) {
            if (!live.isProcessed(seq)) {
                operation.become(NOTHING, seq, NONE, 0, 0L);
                append();
            }
        }
        return missing;
    }

    public long get(int id) {
        if (down) {
            return DOWN;
        }
        if (!isId(id)) {
            return REFUSED;
        }
        return live.documents.sourceOf(id);
    }

    public int known(int id, int what) {
        if (down) {
            return DOWN;
        }
        if (!isId(id)) {
            return REFUSED;
        }
        switch (what) {
            case 0:
                return live.documents.kindOf(id);
            case 1:
                return live.documents.seqOf(id);
            case 2:
                return live.documents.versionOf(id);
            case 3:
                return refreshed.isDocument(id) ? 1 : 0;
            case 4:
                return refreshed.isDocument(id) ? refreshed.seqOf(id) : NONE;
            default:
                return REFUSED;
        }
    }

    public int refresh() {
        if (down) {
            return DOWN;
        }
        live.documents.forgetTombstones(live.checkpoint);
        refreshed.copyFrom(live.documents);
        return refreshed.count();
    }

    public int sync(boolean roll) {
        if (down) {
            return DOWN;
        }
        if (roll && log.count() >= GENERATIONS) {
            return FULL;
        }
        int synced = log.syncCurrent();
        persisted = live.checkpoint;
        if (!roll) {
            return synced;
        }
        log.begin();
        return log.current;
    }

    public int flush() {
        if (down) {
            return DOWN;
        }
        int going = log.countUpTo(live.checkpoint);
        if (log.count() - going >= GENERATIONS) {
            return FULL;
        }
        log.syncCurrent();
        persisted = live.checkpoint;
        commit.startFrom(live);
        log.oldest += going;
        log.begin();
        return going;
    }

    public int crash(int keep) {
        if (down) {
            return DOWN;
        }
        int unsynced = log.unsynced();
        if (keep < 0 || keep > unsynced) {
            return REFUSED;
        }
        log.cutCurrent(log.synced + keep);
        down = true;
        return unsynced - keep;
    }

    public int recover(int stop) {
        if (!down) {
            return REFUSED;
        }
        // What is live is lost while the shard is down, so a recovery that fails may leave anything there.
        live.startFrom(commit);
        replayed = 0;
        int end = 0;
        for (int number = log.oldest; number <= log.current; number++) {
            end = replayGeneration(number, stop);
            if (end < 0) {
                return end;
            }
        }
        log.cutCurrent(end);
        log.syncCurrent();
        persisted = live.checkpoint;
        refreshed.copyFrom(live.documents);
        down = false;
        return replayed;
    }

    public int flip(int generation, int at, int x) {
        if (!log.hasByte(generation, at) || x < 0 || x > 255) {
            return REFUSED;
        }
        return log.change(generation, at, x);
    }

    public int ask(int kind, int a, int b) {
        if (kind < ALL || kind > EMPTY) {
            return REFUSED;
        }
        if ((kind == WORD || kind == PHRASE) && !isWord(a)) {
            return REFUSED;
        }
        if (kind == PHRASE && !isWord(b)) {
            return REFUSED;
        }
        if (kind == EMPTY) {
            query.size = 0;
            return 0;
        }
        return query.add(kind, a, b) ? query.size : FULL;
    }

    public int hit(int sort, int k) {
        if (down) {
            return DOWN;
        }
        if (!isSort(sort) || k < -1 || !query.isWhole()) {
            return REFUSED;
        }
        scoreAll();
        if (k == -1) {
            return countMatches();
        }
        for (int id = 0; id < IDS; id++) {
            if (scores[id] >= 0 && rankOf(sort, id) == k) {
                return id;
            }
        }
        return REFUSED;
    }

    public int after(int sort, int key, int id) {
        if (down) {
            return DOWN;
        }
        if (!isSort(sort) || !query.isWhole()) {
            return REFUSED;
        }
        scoreAll();
        int first = REFUSED;
        for (int i = 0; i < IDS; i++) {
            if (scores[i] >= 0 && isBehind(sort, keyOf(sort, i), i, key, id)) {
                if (first < 0 || isBehind(sort, keyOf(sort, first), first, keyOf(sort, i), i)) {
                    first = i;
                }
            }
        }
        return first;
    }

    public int score(int id) {
        if (down) {
            return DOWN;
        }
        if (!isId(id) || !query.isWhole()) {
            return REFUSED;
        }
        scoreAll();
        return scores[id] >= 0 ? scores[id] : REFUSED;
    }

    public int info(int what) {
        switch (what) {
            case 0:
                return down ? NONE : live.max;
            case 1:
                return down ? NONE : live.checkpoint;
            case 2:
                return down ? NONE : persisted;
            case 3:
                return log.count();
            case 4:
                return log.oldest;
            case 5:
                return log.lengthOf(log.current);
            case 6:
                return log.synced;
            case 7:
                return down ? 1 : 0;
            case 8:
                return commit.checkpoint;
            case 9:
                return commit.max;
            case 10:
                return down ? 0 : refreshed.count();
            default:
                return REFUSED;
        }
    }

    private static boolean isId(int id) {
        return id >= 0 && id < IDS;
    }

    private static boolean isWord(int word) {
        return word >= 1 && word <= 15;
    }

    private static boolean isSort(int sort) {
        return sort >= BY_SCORE && sort <= BY_NUMBER_DOWN;
    }

    /** The bytes of a record of this kind, 0 if there is no such kind. */
    private static int sizeOf(int kind) {
        switch (kind) {
            case INDEX:
                return FRAME + 14;
            case DELETE:
                return FRAME + 6;
            case NOTHING:
                return FRAME + 3;
            default:
                return 0;
        }
    }

    private boolean holds(int id, int ifSeq) {
        if (ifSeq == -1) {
            return true;
        }
        if (ifSeq == -2) {
            return !live.documents.isDocument(id);
        }
        return live.documents.isDocument(id) && live.documents.seqOf(id) == ifSeq;
    }

    /** Appends the record of the operation and processes it; whether something else is known by it. */
    private boolean append() {
        log.append(operation);
        return live.process(operation);
    }

    /** Where the whole records of the generation end, or CORRUPT, or DOWN if there are more than stop to process. */
    private int replayGeneration(int number, int stop) {
        int at = 0;
        int length = log.lengthOf(number);
        log.forgetSeqs(number);
        for (int n = 0; n < CAPACITY && at < length; n++) {
            int size = log.read(number, at, operation);
            if (size == 0 || operation.seq > live.checkpoint + WINDOW) {
                return at < log.syncedOf(number) ? CORRUPT : at;
            }
            log.noteSeq(number, operation.seq);
            if (!live.isProcessed(operation.seq)) {
                if (stop >= 0 && replayed >= stop) {
                    return DOWN;
                }
                live.process(operation);
                replayed++;
            }
            at += size;
        }
        return at;
    }

    private void scoreAll() {
        for (int id = 0; id < IDS; id++) {
            scores[id] = refreshed.isDocument(id) ? query.scoreOf(refreshed.sourceOf(id)) : NONE;
        }
    }

    private int countMatches() {
        int count = 0;
        for (int id = 0; id < IDS; id++) {
            if (scores[id] >= 0) {
                count++;
            }
        }
        return count;
    }

    private int rankOf(int sort, int id) {
        int rank = 0;
        for (int other = 0; other < IDS; other++) {
            if (scores[other] >= 0 && isBehind(sort, keyOf(sort, id), id, keyOf(sort, other), other)) {
                rank++;
            }
        }
        return rank;
    }

    private int keyOf(int sort, int id) {
        if (!isId(id)) {
            return 0;
        }
        return sort == BY_SCORE ? scores[id] : (int) refreshed.sourceOf(id);
    }

    private static boolean isBehind(int sort, int key, int id, int otherKey, int otherId) {
        if (key == otherKey) {
            return id > otherId;
        }
        return sort == BY_NUMBER ? key > otherKey : key < otherKey;
    }

    private static final class Operation {
        int kind = NOTHING;
        int seq = NONE;
        int id = NONE;
        int version = 0;
        long source = 0L;

        void become(int newKind, int newSeq, int newId, int newVersion, long newSource) {
            kind = newKind;
            seq = newSeq;
            id = newId;
            version = newVersion;
            source = newSource;
        }
    }

    /** What is known of each id: kind 0 is nothing, INDEX a document, DELETE a tombstone. */
    private static final class Documents {
        private final int[] kinds = new int[IDS];
        private final int[] seqs = new int[IDS];
        private final int[] versions = new int[IDS];
        private final long[] sources = new long[IDS];

        Documents() {
            for (int id = 0; id < IDS; id++) {
                seqs[id] = NONE;
            }
        }

        int kindOf(int id) {
            return isId(id) ? kinds[id] : 0;
        }

        int seqOf(int id) {
            return isId(id) ? seqs[id] : NONE;
        }

        int versionOf(int id) {
            return isId(id) ? versions[id] : 0;
        }

        long sourceOf(int id) {
            return isId(id) ? sources[id] : 0L;
        }

        boolean isDocument(int id) {
            return kindOf(id) == INDEX;
        }

        int count() {
            int count = 0;
            for (int id = 0; id < IDS; id++) {
                if (isDocument(id)) {
                    count++;
                }
            }
            return count;
        }

        /**
         * Whether something else is known by the operation. One with the SEQ that is known changes nothing:
         * the commit may know it already while its record is still gone through.
         */
        boolean learn(Operation from) {
            int id = from.id;
            if (from.kind == NOTHING || !isId(id) || from.seq <= seqs[id]) {
                return false;
            }
            kinds[id] = from.kind;
            seqs[id] = from.seq;
            versions[id] = from.version;
            sources[id] = from.kind == INDEX ? from.source : 0L;
            return true;
        }

        void forgetTombstones(int upTo) {
            for (int id = 0; id < IDS; id++) {
                if (kinds[id] == DELETE && seqs[id] <= upTo) {
                    kinds[id] = 0;
                    seqs[id] = NONE;
                    versions[id] = 0;
                }
            }
        }

        void copyFrom(Documents other) {
            for (int id = 0; id < IDS; id++) {
                kinds[id] = other.kinds[id];
                seqs[id] = other.seqs[id];
                versions[id] = other.versions[id];
                sources[id] = other.sources[id];
            }
        }
    }

    /** What is known of the ids, and which SEQ are processed. */
    private static final class Knowledge {
        final Documents documents = new Documents();
        int checkpoint = NONE;
        int max = NONE;
        // Bit i stands for SEQ checkpoint + 1 + i: none that is processed lies further ahead.
        private long ahead = 0L;

        boolean isProcessed(int seq) {
            int distance = seq - checkpoint - 1;
            if (distance < 0) {
                return true;
            }
            return distance < WINDOW && ((ahead >>> distance) & 1L) != 0L;
        }

        /** Whether something else is known of the id by the operation. */
        boolean process(Operation from) {
            mark(from.seq);
            return documents.learn(from);
        }

        int countMissing() {
            int missing = 0;
            for (int seq = checkpoint + 1; seq <= max; seq++) {
                if (!isProcessed(seq)) {
                    missing++;
                }
            }
            return missing;
        }

        /** As recovery begins with a commit: of the SEQ above CHECKPOINT none counts as processed. */
        void startFrom(Knowledge other) {
            documents.copyFrom(other.documents);
            checkpoint = other.checkpoint;
            max = other.max;
            ahead = 0L;
        }

        private void mark(int seq) {
            int distance = seq - checkpoint - 1;
            if (distance >= 0 && distance < WINDOW) {
                ahead |= 1L << distance;
            }
            for (int i = 0; i < WINDOW && (ahead & 1L) != 0L; i++) {
                ahead >>>= 1;
                checkpoint++;
            }
            max = Math.max(max, seq);
        }
    }

    /**
     * The generations oldest .. current. Their numbers follow one another and there are at most four, so the
     * lowest two bits of a number tell its row, and no two share one.
     */
    private static final class Log {
        int oldest = 0;
        int current = 0;
        int synced = 0;
        private final int[] bytes = new int[GENERATIONS * CAPACITY];
        private final int[] lengths = new int[GENERATIONS];
        private final int[] greatestSeqs = new int[GENERATIONS];

        Log() {
            greatestSeqs[0] = NONE;
        }

        int count() {
            return current - oldest + 1;
        }

        int lengthOf(int number) {
            return lengths[rowOf(number)];
        }

        int syncedOf(int number) {
            return number == current ? synced : lengthOf(number);
        }

        int room() {
            return CAPACITY - lengthOf(current);
        }

        int unsynced() {
            return lengthOf(current) - synced;
        }

        /** How many bytes were not synced. */
        int syncCurrent() {
            int fresh = unsynced();
            synced = lengthOf(current);
            return fresh;
        }

        void cutCurrent(int length) {
            lengths[rowOf(current)] = length;
        }

        void begin() {
            current++;
            synced = 0;
            lengths[rowOf(current)] = 0;
            forgetSeqs(current);
        }

        /** How many generations, from the oldest on, have no record with a SEQ above this one. */
        int countUpTo(int seq) {
            int count = 0;
            for (int number = oldest; number <= current; number++) {
                if (greatestSeqs[rowOf(number)] > seq) {
                    return count;
                }
                count++;
            }
            return count;
        }

        void forgetSeqs(int number) {
            greatestSeqs[rowOf(number)] = NONE;
        }

        void noteSeq(int number, int seq) {
            int row = rowOf(number);
            greatestSeqs[row] = Math.max(greatestSeqs[row], seq);
        }

        boolean hasByte(int number, int at) {
            return number >= oldest && number <= current && at >= 0 && at < lengths[rowOf(number)];
        }

        int change(int number, int at, int x) {
            if (at < 0 || at >= CAPACITY) {
                return 0;
            }
            int place = rowOf(number) * CAPACITY + at;
            bytes[place] ^= x;
            return bytes[place];
        }

        void append(Operation from) {
            int start = lengthOf(current);
            int inner = sizeOf(from.kind) - FRAME;
            put(inner, 1);
            put(from.kind, 1);
            put(from.seq, 2);
            if (from.kind != NOTHING) {
                put(from.id, 1);
                put(from.version, 2);
            }
            if (from.kind == INDEX) {
                put(from.source, 8);
            }
            put(checksum(current, start, inner + 1), 4);
            noteSeq(current, from.seq);
        }

        /** The bytes of the whole and sound record at this place, which the operation then is; 0 if it is broken. */
        int read(int number, int at, Operation into) {
            int left = lengthOf(number) - at;
            if (left < LEAST_RECORD) {
                return 0;
            }
            int kind = byteAt(number, at + 1);
            int size = sizeOf(kind);
            int inner = size - FRAME;
            if (size == 0 || size > left || byteAt(number, at) != inner) {
                return 0;
            }
            if ((int) take(number, at + 1 + inner, 4) != checksum(number, at, inner + 1)) {
                return 0;
            }
            int id = kind == NOTHING ? NONE : byteAt(number, at + 4);
            if (kind != NOTHING && !isId(id)) {
                return 0;
            }
            int version = kind == NOTHING ? 0 : (int) take(number, at + 5, 2);
            long source = kind == INDEX ? take(number, at + 7, 8) : 0L;
            into.become(kind, (int) take(number, at + 2, 2), id, version, source);
            return size;
        }

        private static int rowOf(int number) {
            return number & (GENERATIONS - 1);
        }

        private int byteAt(int number, int at) {
            return at >= 0 && at < CAPACITY ? bytes[rowOf(number) * CAPACITY + at] : 0;
        }

        private void put(long value, int count) {
            int row = rowOf(current);
            for (int i = 0; i < count; i++) {
                int at = lengths[row];
                if (at >= 0 && at < CAPACITY) {
                    bytes[row * CAPACITY + at] = (int) (value >>> (8 * i)) & 255;
                    lengths[row] = at + 1;
                }
            }
        }

        private long take(int number, int at, int count) {
            long value = 0L;
            for (int i = 0; i < count; i++) {
                value |= (long) byteAt(number, at + i) << (8 * i);
            }
            return value;
        }

        private int checksum(int number, int from, int count) {
            int crc = -1;
            for (int i = 0; i < count; i++) {
                crc ^= byteAt(number, from + i);
                for (int bit = 0; bit < 8; bit++) {
                    crc = (crc & 1) != 0 ? (crc >>> 1) ^ 0xEDB88320 : crc >>> 1;
                }
            }
            return ~crc;
        }
    }

    private static final class Query {
        int size = 0;
        private final int[] kinds = new int[TOKENS];
        private final int[] as = new int[TOKENS];
        private final int[] bs = new int[TOKENS];
        private final boolean[] openMatches = new boolean[TOKENS];
        private final int[] openScores = new int[TOKENS];

        /** Whether there was a place for the token. */
        boolean add(int kind, int a, int b) {
            if (size < 0 || size >= TOKENS) {
                return false;
            }
            kinds[size] = kind;
            as[size] = a;
            bs[size] = b;
            size++;
            return true;
        }

        /** Whether the tokens are one query, with none behind it. */
        boolean isWhole() {
            int wanted = 1;
            for (int i = 0; i < size && i < TOKENS; i++) {
                if (wanted == 0) {
                    return false;
                }
                wanted += operandsOf(kinds[i]) - 1;
            }
            return wanted == 0;
        }

        /**
         * The score of a document, NONE if the query, which must be whole, does not match it. From the last token
         * to the first, so that the operands of a token are the last ones left open when it comes.
         */
        int scoreOf(long source) {
            int open = 0;
            for (int i = Math.min(size, TOKENS) - 1; i >= 0; i--) {
                int operands = operandsOf(kinds[i]);
                if (open < operands || open - operands >= TOKENS) {
                    return NONE;
                }
                open = open - operands + 1;
                if (operands == 0) {
                    openLeaf(i, open - 1, source);
                } else {
                    joinOpen(kinds[i], open - 1);
                }
            }
            return open == 1 && openMatches[0] ? openScores[0] : NONE;
        }

        private static int operandsOf(int kind) {
            if (kind == AND || kind == OR) {
                return 2;
            }
            return kind == NOT ? 1 : 0;
        }

        private void openLeaf(int token, int place, long source) {
            int score = leafScore(kinds[token], as[token], bs[token], source);
            openScores[place] = score;
            openMatches[place] = score > 0;
        }

        private void joinOpen(int kind, int place) {
            if (kind == NOT) {
                openMatches[place] = !openMatches[place];
                openScores[place] = 0;
                return;
            }
            if (place + 1 >= TOKENS) {
                return;
            }
            boolean one = openMatches[place];
            boolean other = openMatches[place + 1];
            openMatches[place] = kind == AND ? one && other : one || other;
            openScores[place] += openScores[place + 1];
        }

        /** What a token without operands adds to the score: it matches just if that is more than 0. */
        private static int leafScore(int kind, int a, int b, long source) {
            switch (kind) {
                case ALL:
                    return 1;
                case WORD:
                    return countWord(a, source);
                case PHRASE:
                    return 2 * countPhrase(a, b, source);
                case RANGE:
                    return (int) source >= a && (int) source <= b ? 1 : 0;
                default:
                    return 0;
            }
        }

        private static int wordAt(int i, long source) {
            return (int) (source >>> (32 + 4 * i)) & 15;
        }

        private static int countWord(int word, long source) {
            int count = 0;
            for (int i = 0; i < WORDS && wordAt(i, source) != 0; i++) {
                if (wordAt(i, source) == word) {
                    count++;
                }
            }
            return count;
        }

        private static int countPhrase(int first, int second, long source) {
            int count = 0;
            for (int i = 0; i + 1 < WORDS && wordAt(i, source) != 0; i++) {
                if (wordAt(i, source) == first && wordAt(i + 1, source) == second) {
                    count++;
                }
            }
            return count;
        }
    }
}
