import java.util.ArrayList;
import java.util.List;
import java.util.function.Supplier;
import java.util.function.ToLongFunction;

/** What a shard shows of its state, as numbers; small enough for the 512 calls of an object. */
final class Look {
    private Look() {
    }

    static List<Long> at(ShardEngine x) {
        List<Long> seen = new ArrayList<>();
        for (int what = 0; what <= 10; what++) {
            seen.add((long) x.info(what));
        }
        for (int id = 0; id < 16; id++) {
            seen.add(x.get(id));
            for (int what = 0; what <= 4; what++) {
                seen.add((long) x.known(id, what));
            }
        }
        return seen;
    }

    static List<Integer> bytesOf(ShardEngine x, int generation) {
        List<Integer> bytes = new ArrayList<>();
        int next = x.flip(generation, 0, 0);
        while (next >= 0 && bytes.size() <= 240) {
            bytes.add(next);
            next = x.flip(generation, bytes.size(), 0);
        }
        return bytes;
    }

    static int current(ShardEngine x) {
        return x.info(4) + x.info(3) - 1;
    }

    /** The call has this answer and changes nothing: not what is shown, nor what a crash and a recovery leave. */
    static void unchanged(String what, Supplier<ShardEngine> make, ToLongFunction<ShardEngine> call, long want) {
        ShardEngine x = make.get();
        ShardEngine y = make.get();
        Check.due(what, call.applyAsLong(x), want);
        Check.holds(what + " changes nothing that is shown", at(x).equals(at(y)));
        Check.due(what + " and the hits", x.hit(0, -1), y.hit(0, -1));
        x.crash(x.info(5) - x.info(6));
        y.crash(y.info(5) - y.info(6));
        Check.holds(what + " changes no byte", bytesOf(x, current(x)).equals(bytesOf(y, current(y))));
        Check.due(what + " and a recovery", x.recover(-1), y.recover(-1));
        Check.holds(what + " changes nothing that lasts", at(x).equals(at(y)));
        Check.due(what + " and the query", x.ask(0, 0, 0), y.ask(0, 0, 0));
    }
}
