import java.util.ArrayList;
import java.util.Comparator;
import java.util.List;
import java.util.Map;
import java.util.TreeMap;
import java.util.TreeSet;
import java.util.zip.CRC32;

/** The document once more, as slowly and plainly as it can be said: what ShardEngine is measured against. */
final class Model {
    record Op(int kind, int seq, int id, int version, long source) {
    }

    static final class Generation {
        final int number;
        final List<Integer> bytes = new ArrayList<>();
        final List<Integer> seqs = new ArrayList<>();

        Generation(int number) {
            this.number = number;
        }
    }

    record Found(int id, int score, int number) {
    }

    private final List<Generation> log = new ArrayList<>();
    private final List<int[]> query = new ArrayList<>();
    private int synced = 0;
    private int begun = 0;
    private boolean down = false;
    private int persisted = -1;
    private TreeSet<Integer> processed = new TreeSet<>();
    private Map<Integer, Op> known = new TreeMap<>();
    private int max = -1;
    private Map<Integer, Op> visible = new TreeMap<>();
    private Map<Integer, Op> commitKnown = new TreeMap<>();
    private int commitCheckpoint = -1;
    private int commitMax = -1;
    private int place;

    Model() {
        log.add(new Generation(begun++));
    }

    private static int checkpointOf(TreeSet<Integer> seqs) {
        int n = -1;
        while (seqs.contains(n + 1)) {
            n++;
        }
        return n;
    }

    private int checkpoint() {
        return checkpointOf(processed);
    }

    private Generation current() {
        return log.get(log.size() - 1);
    }

    private static List<Integer> record(Op op) {
        List<Integer> bytes = new ArrayList<>();
        bytes.add(op.kind == 1 ? 14 : op.kind == 2 ? 6 : 3);
        bytes.add(op.kind);
        bytes.add(op.seq % 256);
        bytes.add(op.seq / 256);
        if (op.kind != 3) {
            bytes.add(op.id);
            bytes.add(op.version % 256);
            bytes.add(op.version / 256);
        }
        long rest = op.source;
        for (int i = 0; i < 8 && op.kind == 1; i++) {
            bytes.add((int) Math.floorMod(rest, 256L));
            rest = Math.floorDiv(rest, 256L);
        }
        long crc = crc(bytes);
        for (int i = 0; i < 4; i++) {
            bytes.add((int) (crc % 256));
            crc /= 256;
        }
        return bytes;
    }

    private static long crc(List<Integer> bytes) {
        CRC32 crc = new CRC32();
        for (int b : bytes) {
            crc.update(b);
        }
        return crc.getValue();
    }

    private boolean fits(List<List<Integer>> records) {
        int size = current().bytes.size();
        for (List<Integer> bytes : records) {
            size += bytes.size();
        }
        return size <= 240;
    }

    private static boolean learn(Map<Integer, Op> known, Op op) {
        if (op.kind == 3 || (known.containsKey(op.id) && known.get(op.id).seq >= op.seq)) {
            return false;
        }
        known.put(op.id, op);
        return true;
    }

    private boolean process(Op op) {
        current().bytes.addAll(record(op));
        current().seqs.add(op.seq);
        processed.add(op.seq);
        max = Math.max(max, op.seq);
        return learn(known, op);
    }

    private static boolean isDocument(Map<Integer, Op> known, int id) {
        return known.containsKey(id) && known.get(id).kind == 1;
    }

    int write(int kind, int id, long source, int ifSeq) {
        if (down) {
            return -4;
        }
        if (kind < 1 || kind > 2 || id < 0 || id > 15 || ifSeq < -2) {
            return -1;
        }
        if (ifSeq == -2 && isDocument(known, id)) {
            return -2;
        }
        if (ifSeq >= 0 && !(isDocument(known, id) && known.get(id).seq == ifSeq)) {
            return -2;
        }
        int version = known.containsKey(id) ? (known.get(id).version + 1) % 65536 : 1;
        Op op = new Op(kind, max + 1, id, version, source);
        if (!fits(List.of(record(op))) || op.seq > checkpoint() + 64) {
            return -3;
        }
        process(op);
        return op.seq;
    }

    int replica(int kind, int id, int seq, int version, long source) {
        if (down) {
            return -4;
        }
        if (kind < 1 || kind > 3 || seq < 0 || seq > checkpoint() + 64) {
            return -1;
        }
        if (kind < 3 && (id < 0 || id > 15 || version < 1 || version > 60000)) {
            return -1;
        }
        if (processed.contains(seq)) {
            return 0;
        }
        Op op = new Op(kind, seq, id, version, source);
        if (!fits(List.of(record(op)))) {
            return -3;
        }
        return process(op) ? 1 : 2;
    }

    int fill() {
        if (down) {
            return -4;
        }
        List<List<Integer>> records = new ArrayList<>();
        List<Op> ops = new ArrayList<>();
        for (int seq = 0; seq <= max; seq++) {
            if (!processed.contains(seq)) {
                ops.add(new Op(3, seq, 0, 0, 0L));
                records.add(record(ops.get(ops.size() - 1)));
            }
        }
        if (!fits(records)) {
            return -3;
        }
        ops.forEach(this::process);
        return ops.size();
    }

    long get(int id) {
        if (down) {
            return -4;
        }
        if (id < 0 || id > 15) {
            return -1;
        }
        return isDocument(known, id) ? known.get(id).source : 0L;
    }

    int known(int id, int what) {
        if (down) {
            return -4;
        }
        if (id < 0 || id > 15 || what < 0 || what > 4) {
            return -1;
        }
        Op op = known.get(id);
        int[] answers = {op == null ? 0 : op.kind, op == null ? -1 : op.seq, op == null ? 0 : op.version,
            visible.containsKey(id) ? 1 : 0, visible.containsKey(id) ? visible.get(id).seq : -1};
        return answers[what];
    }

    private void makeVisible() {
        visible = new TreeMap<>(known);
        visible.values().removeIf(op -> op.kind == 2);
    }

    int refresh() {
        if (down) {
            return -4;
        }
        makeVisible();
        int checkpoint = checkpoint();
        known.values().removeIf(op -> op.kind == 2 && op.seq <= checkpoint);
        return visible.size();
    }

    private int syncNow() {
        int fresh = current().bytes.size() - synced;
        synced = current().bytes.size();
        persisted = checkpoint();
        return fresh;
    }

    private void begin() {
        log.add(new Generation(begun++));
        synced = 0;
    }

    int sync(boolean roll) {
        if (down) {
            return -4;
        }
        if (roll && log.size() == 4) {
            return -3;
        }
        int fresh = syncNow();
        if (roll) {
            begin();
            return current().number;
        }
        return fresh;
    }

    int flush() {
        if (down) {
            return -4;
        }
        int checkpoint = checkpoint();
        int going = 0;
        while (going < log.size() && log.get(going).seqs.stream().allMatch(seq -> seq <= checkpoint)) {
            going++;
        }
        if (log.size() - going == 4) {
            return -3;
        }
        syncNow();
        commitKnown = new TreeMap<>(known);
        commitCheckpoint = checkpoint;
        commitMax = max;
        log.subList(0, going).clear();
        begin();
        return going;
    }

    int crash(int keep) {
        if (down) {
            return -4;
        }
        List<Integer> bytes = current().bytes;
        if (keep < 0 || keep > bytes.size() - synced) {
            return -1;
        }
        int lost = bytes.size() - synced - keep;
        bytes.subList(synced + keep, bytes.size()).clear();
        down = true;
        return lost;
    }

    /** The operation whose record begins here, null if it is broken. */
    private static Op read(List<Integer> bytes, int at, int checkpoint) {
        if (at + 2 > bytes.size()) {
            return null;
        }
        int kind = bytes.get(at + 1);
        int size = kind == 1 ? 19 : kind == 2 ? 11 : kind == 3 ? 8 : 1000;
        if (at + size > bytes.size()) {
            return null;
        }
        List<Integer> r = bytes.subList(at, at + size);
        long source = 0;
        for (int i = 14; i > 6 && kind == 1; i--) {
            source = source * 256 + r.get(i);
        }
        int version = kind == 3 ? 0 : r.get(5) + 256 * r.get(6);
        Op op = new Op(kind, r.get(2) + 256 * r.get(3), kind == 3 ? 0 : r.get(4), version, source);
        return op.id <= 15 && op.seq <= checkpoint + 64 && record(op).equals(r) ? op : null;
    }

    int recover(int stop) {
        if (!down) {
            return -1;
        }
        TreeSet<Integer> seqs = new TreeSet<>();
        for (int seq = 0; seq <= commitCheckpoint; seq++) {
            seqs.add(seq);
        }
        Map<Integer, Op> nowKnown = new TreeMap<>(commitKnown);
        int nowMax = commitMax;
        int count = 0;
        int end = 0;
        List<List<Integer>> gone = new ArrayList<>();
        for (Generation g : log) {
            List<Integer> through = new ArrayList<>();
            gone.add(through);
            end = 0;
            while (end < g.bytes.size()) {
                Op op = read(g.bytes, end, checkpointOf(seqs));
                if (op == null && (g != current() || end < synced)) {
                    return -5;
                }
                if (op == null) {
                    break;
                }
                through.add(op.seq);
                end += record(op).size();
                if (!seqs.contains(op.seq)) {
                    if (stop >= 0 && count == stop) {
                        return -4;
                    }
                    count++;
                    seqs.add(op.seq);
                    nowMax = Math.max(nowMax, op.seq);
                    learn(nowKnown, op);
                }
            }
        }
        for (int i = 0; i < log.size(); i++) {
            log.get(i).seqs.clear();
            log.get(i).seqs.addAll(gone.get(i));
        }
        current().bytes.subList(end, current().bytes.size()).clear();
        processed = seqs;
        known = nowKnown;
        max = nowMax;
        down = false;
        syncNow();
        makeVisible();
        return count;
    }

    int flip(int generation, int at, int x) {
        for (Generation g : log) {
            if (g.number == generation && at >= 0 && at < g.bytes.size() && x >= 0 && x <= 255) {
                g.bytes.set(at, g.bytes.get(at) ^ x);
                return g.bytes.get(at);
            }
        }
        return -1;
    }

    int ask(int kind, int a, int b) {
        boolean words = kind == 1 ? a >= 1 && a <= 15 : kind != 2 || (a >= 1 && a <= 15 && b >= 1 && b <= 15);
        if (kind < 0 || kind > 7 || !words) {
            return -1;
        }
        if (kind == 7) {
            query.clear();
            return 0;
        }
        if (query.size() == 15) {
            return -3;
        }
        query.add(new int[] {kind, a, b});
        return query.size();
    }

    /** Goes over one query from place on: its end, -1 if there is none. */
    private int endOf(int from) {
        if (from < 0 || from >= query.size()) {
            return -1;
        }
        switch (query.get(from)[0]) {
            case 4:
            case 5:
                return endOf(endOf(from + 1));
            case 6:
                return endOf(from + 1);
            default:
                return from + 1;
        }
    }

    private static List<Integer> textOf(long source) {
        List<Integer> text = new ArrayList<>();
        String hex = String.format("%08x", source >>> 32);
        for (int i = 7; i >= 0 && hex.charAt(i) != '0'; i--) {
            text.add(Integer.parseInt(hex.substring(i, i + 1), 16));
        }
        return text;
    }

    /** Whether the query that begins at place matches; place goes behind it. */
    private boolean matches(long source) {
        int[] token = query.get(place++);
        switch (token[0]) {
            case 4: {
                boolean one = matches(source);
                return matches(source) && one;
            }
            case 5: {
                boolean one = matches(source);
                return matches(source) || one;
            }
            case 6:
                return !matches(source);
            default:
                return often(token, source) > 0;
        }
    }

    private static int often(int[] token, long source) {
        List<Integer> text = textOf(source);
        int count = 0;
        switch (token[0]) {
            case 0:
                return 1;
            case 1:
                for (int word : text) {
                    count += word == token[1] ? 1 : 0;
                }
                return count;
            case 2:
                for (int i = 1; i < text.size(); i++) {
                    count += text.get(i - 1) == token[1] && text.get(i) == token[2] ? 1 : 0;
                }
                return 2 * count;
            default:
                return token[1] <= (int) source && (int) source <= token[2] ? 1 : 0;
        }
    }

    private int scoreOf(long source) {
        boolean[] within = new boolean[16];
        for (int i = 0; i < query.size(); i++) {
            for (int j = i; j < endOf(i) && query.get(i)[0] == 6; j++) {
                within[j] = true;
            }
        }
        int sum = 0;
        for (int i = 0; i < query.size(); i++) {
            if (query.get(i)[0] < 4 && !within[i]) {
                sum += often(query.get(i), source);
            }
        }
        return sum;
    }

    private boolean isQuery() {
        return !query.isEmpty() && endOf(0) == query.size();
    }

    private List<Found> found(int sort) {
        List<Found> all = new ArrayList<>();
        for (Op op : visible.values()) {
            place = 0;
            if (matches(op.source)) {
                all.add(new Found(op.id, scoreOf(op.source), (int) op.source));
            }
        }
        all.sort(order(sort));
        return all;
    }

    private static Comparator<Found> order(int sort) {
        Comparator<Found> by = sort == 0 ? Comparator.comparing(f -> -(long) f.score)
            : sort == 1 ? Comparator.comparing(f -> (long) f.number) : Comparator.comparing(f -> -(long) f.number);
        return by.thenComparing(f -> f.id);
    }

    int hit(int sort, int k) {
        if (down) {
            return -4;
        }
        if (sort < 0 || sort > 2 || !isQuery()) {
            return -1;
        }
        List<Found> all = found(sort);
        if (k == -1) {
            return all.size();
        }
        return k >= 0 && k < all.size() ? all.get(k).id : -1;
    }

    int after(int sort, int key, int id) {
        if (down) {
            return -4;
        }
        if (sort < 0 || sort > 2 || !isQuery()) {
            return -1;
        }
        for (Found f : found(sort)) {
            if (order(sort).compare(f, new Found(id, key, key)) > 0) {
                return f.id;
            }
        }
        return -1;
    }

    int score(int id) {
        if (down) {
            return -4;
        }
        if (!isQuery()) {
            return -1;
        }
        for (Found f : found(0)) {
            if (f.id == id) {
                return f.score;
            }
        }
        return -1;
    }

    int info(int what) {
        int[] answers = {max, checkpoint(), persisted, log.size(), log.get(0).number, current().bytes.size(), synced,
            down ? 1 : 0, commitCheckpoint, commitMax, visible.size()};
        if (what < 0 || what >= answers.length) {
            return -1;
        }
        return down && what < 3 ? -1 : down && what == 10 ? 0 : answers[what];
    }
}
