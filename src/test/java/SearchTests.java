/** Promises 13 to 16: ask, hit, after, score. */
final class SearchTests extends Queries {
    private SearchTests() {
    }

    static void run() {
        Check.test("promise 13: ask counts", SearchTests::askCounts);
        Check.test("promise 13: ask refuses", SearchTests::askRefuses);
        Check.test("promise 13: ask while down", SearchTests::askDown);
        Check.test("promise 14: hit in each sort", SearchTests::hitSorts);
        Check.test("promise 14: hit refuses", SearchTests::hitRefuses);
        Check.test("promise 14: what is a query", SearchTests::wholeQueries);
        Check.test("promise 14: what a query matches", SearchTests::matches);
        Check.test("promise 15: after", SearchTests::afterKeys);
        Check.test("promise 15: after refuses", SearchTests::afterRefuses);
        Check.test("promise 16: score", SearchTests::scores);
        Check.test("promise 16: score refuses", SearchTests::scoreRefuses);
    }

    /** Documents 0, 2, 4, 9: see each one's number and words. */
    private static ShardEngine shard() {
        ShardEngine x = new ShardEngine();
        x.write(1, 9, Sources.source(-5, 1, 2, 1, 2, 1), -1);
        x.write(1, 4, Sources.source(7, 3, 3, 3), -1);
        x.write(1, 2, Sources.source(7, 1), -1);
        x.write(1, 0, Sources.source(Integer.MAX_VALUE), -1);
        x.write(1, 7, Sources.source(1, 1), -1);
        x.write(2, 7, 0L, -1);
        x.refresh();
        return x;
    }

    private static void hits(ShardEngine x, int sort, int... ids) {
        found("sort " + sort, x, sort, ids);
    }

    private static void askCounts() {
        ShardEngine x = new ShardEngine();
        for (int i = 1; i <= 15; i++) {
            Check.due("ask", x.ask(i % 7, 1, 1), i);
        }
        Check.due("full", x.ask(0, 0, 0), -3);
        Check.due("refused before full", x.ask(1, 0, 0), -1);
        Check.due("empty", x.ask(7, -9, 99), 0);
        Check.due("again", x.ask(0, 0, 0), 1);
        Check.due("empty", x.ask(7, 0, 0), 0);
        Check.due("empty", x.ask(7, 0, 0), 0);
    }

    private static void askRefuses() {
        ShardEngine x = new ShardEngine();
        int[][] wrong = {{-1, 1, 1}, {8, 1, 1}, {1, 0, 1}, {1, 16, 1}, {1, -1, 1}, {2, 0, 1}, {2, 1, 0}, {2, 16, 1},
            {2, 1, 16}, {2, 1, -1}, {Integer.MAX_VALUE, 1, 1}, {Integer.MIN_VALUE, 1, 1}};
        for (int[] w : wrong) {
            Check.due("ask(" + w[0] + ", " + w[1] + ", " + w[2] + ")", x.ask(w[0], w[1], w[2]), -1);
        }
        Check.due("b of a WORD is free", x.ask(WORD, 15, 99), 1);
        Check.due("words 15", x.ask(PHRASE, 15, 15), 2);
        Check.due("a range of none", x.ask(RANGE, Integer.MAX_VALUE, Integer.MIN_VALUE), 3);
        Check.due("a and b of ALL are free", x.ask(ALL, -1, 99), 4);
        Check.due("of AND", x.ask(AND, -1, 99), 5);
        Check.due("of OR", x.ask(OR, -1, 99), 6);
        Check.due("of NOT", x.ask(NOT, -1, 99), 7);
    }

    private static void askDown() {
        ShardEngine x = shard();
        x.sync(false);
        x.ask(NOT, 0, 0);
        x.crash(0);
        Check.due("works down", x.ask(WORD, 1, 0), 2);
        Check.due("refuses down", x.ask(9, 1, 0), -1);
        Check.due("hit is down", x.hit(0, -1), -4);
        Check.due("down before refused", x.hit(9, -9), -4);
        x.recover(-1);
        Check.due("the query stayed", x.hit(0, -1), 2);
        Check.due("empty", x.ask(7, 0, 0), 0);
    }

    private static void hitSorts() {
        ShardEngine x = shard();
        query(x, ALL, 0, 0);
        hits(x, 0, 0, 2, 4, 9);
        hits(x, 1, 9, 2, 4, 0);
        hits(x, 2, 0, 2, 4, 9);
        query(x, OR, 0, 0, WORD, 1, 0, WORD, 3, 0);
        hits(x, 0, 4, 9, 2);
        hits(x, 1, 9, 2, 4);
        hits(x, 2, 2, 4, 9);
        query(x, WORD, 15, 0);
        hits(x, 0);
    }

    private static void hitRefuses() {
        ShardEngine x = shard();
        Check.due("no query", x.hit(0, -1), -1);
        query(x, ALL, 0, 0);
        int[][] wrong = {{-1, 0}, {3, 0}, {3, -1}, {-1, -1}, {0, -2}, {0, 4}, {1, Integer.MAX_VALUE},
            {2, Integer.MIN_VALUE}, {Integer.MIN_VALUE, 0}};
        for (int[] w : wrong) {
            Check.due("hit(" + w[0] + ", " + w[1] + ")", x.hit(w[0], w[1]), -1);
        }
    }

    private static void wholeQueries() {
        ShardEngine x = shard();
        int[][] broken = {{AND}, {NOT}, {AND, ALL}, {ALL, ALL}, {NOT, ALL, ALL}, {OR, ALL, ALL, ALL}, {OR, NOT, ALL},
            {ALL, NOT}, {ALL, AND, ALL}, {ALL, ALL, AND}};
        for (int[] kinds : broken) {
            x.ask(7, 0, 0);
            for (int kind : kinds) {
                x.ask(kind, 1, 1);
            }
            Check.due("hit", x.hit(0, -1), -1);
            Check.due("after", x.after(0, 99, 0), -1);
            Check.due("score", x.score(0), -1);
        }
        query(x, OR, 0, 0, NOT, 0, 0, ALL, 0, 0, AND, 0, 0, ALL, 0, 0, WORD, 1, 0);
        hits(x, 0, 9, 2);
        x.ask(7, 0, 0);
        for (int i = 0; i < 7; i++) {
            x.ask(AND, 0, 0);
        }
        for (int i = 0; i < 8; i++) {
            x.ask(ALL, 0, 0);
        }
        hits(x, 0, 0, 2, 4, 9);
        Check.due("eight", x.score(4), 8);
    }

    private static void matches() {
        ShardEngine x = shard();
        query(x, WORD, 1, 0);
        hits(x, 1, 9, 2);
        query(x, PHRASE, 1, 2);
        hits(x, 1, 9);
        query(x, PHRASE, 2, 2);
        hits(x, 1);
        query(x, PHRASE, 3, 3);
        hits(x, 1, 4);
        query(x, RANGE, 7, 7);
        hits(x, 1, 2, 4);
        query(x, RANGE, 8, 7);
        hits(x, 1);
        query(x, RANGE, -5, 6);
        hits(x, 1, 9);
        query(x, RANGE, Integer.MIN_VALUE, Integer.MAX_VALUE);
        hits(x, 1, 9, 2, 4, 0);
        query(x, AND, 0, 0, WORD, 1, 0, RANGE, 0, 9);
        hits(x, 1, 2);
        query(x, OR, 0, 0, WORD, 3, 0, RANGE, Integer.MIN_VALUE, -1);
        hits(x, 1, 9, 4);
        query(x, NOT, 0, 0, WORD, 1, 0);
        hits(x, 1, 4, 0);
        query(x, AND, 0, 0, NOT, 0, 0, WORD, 1, 0, NOT, 0, 0, WORD, 3, 0);
        hits(x, 1, 0);
        x.write(1, 11, Sources.source(0, 1, 0, 5), -1);
        x.write(1, 12, Sources.source(0xD, 9, 8, 7, 6, 5, 4, 3, 2), -1);
        x.refresh();
        query(x, WORD, 5, 0);
        hits(x, 0, 12);
        query(x, PHRASE, 3, 2);
        hits(x, 0, 12);
        query(x, WORD, 2, 0);
        hits(x, 0, 9, 12);
        query(x, WORD, 0xD, 0);
        hits(x, 0);
        query(x, PHRASE, 2, 0xD);
        hits(x, 0);
    }

    private static void afterKeys() {
        ShardEngine x = shard();
        query(x, WORD, 1, 0);
        Check.due("scores 3 1", x.after(0, 4, 0), 9);
        Check.due("like it, the lesser id", x.after(0, 3, 8), 9);
        Check.due("itself", x.after(0, 3, 9), 2);
        Check.due("last", x.after(0, 1, 2), -1);
        Check.due("before all", x.after(0, Integer.MAX_VALUE, Integer.MAX_VALUE), 9);
        Check.due("any id", x.after(0, 3, Integer.MIN_VALUE), 9);
        query(x, NOT, 0, 0, WORD, 1, 0);
        Check.due("scores 0 0", x.after(0, 1, 0), 0);
        Check.due("scores 0 0", x.after(0, 0, 0), 4);
        Check.due("scores 0 0", x.after(0, 0, 4), -1);
        query(x, ALL, 0, 0);
        Check.due("by number", x.after(1, Integer.MIN_VALUE, 0), 9);
        Check.due("by number", x.after(1, -5, 9), 2);
        Check.due("by number", x.after(1, 7, 2), 4);
        Check.due("by number", x.after(1, 7, 4), 0);
        Check.due("by number", x.after(1, Integer.MAX_VALUE, 0), -1);
        Check.due("by number", x.after(1, Integer.MAX_VALUE, -1), 0);
        Check.due("downwards", x.after(2, Integer.MAX_VALUE, -1), 0);
        Check.due("downwards", x.after(2, Integer.MAX_VALUE, 0), 2);
        Check.due("downwards", x.after(2, 7, 2), 4);
        Check.due("downwards", x.after(2, 7, 99), 9);
        Check.due("downwards", x.after(2, -5, 9), -1);
        Check.due("downwards", x.after(2, Integer.MIN_VALUE, 0), -1);
    }

    private static void afterRefuses() {
        ShardEngine x = shard();
        Check.due("no query", x.after(0, 9, 0), -1);
        query(x, ALL, 0, 0);
        Check.due("sort 3", x.after(3, 9, 0), -1);
        Check.due("sort -1", x.after(-1, 9, 0), -1);
        query(x, WORD, 15, 0);
        Check.due("none", x.after(0, 9, 0), -1);
        x.crash(0);
        Check.due("down before refused", x.after(3, 9, 0), -4);
    }

    private static void scores() {
        ShardEngine x = shard();
        query(x, WORD, 1, 0);
        Check.due("how often", x.score(9), 3);
        query(x, PHRASE, 1, 2);
        Check.due("twice how often", x.score(9), 4);
        query(x, PHRASE, 3, 3);
        Check.due("they may overlap", x.score(4), 4);
        query(x, ALL, 0, 0);
        Check.due("1", x.score(9), 1);
        query(x, RANGE, -5, -5);
        Check.due("1", x.score(9), 1);
        query(x, OR, 0, 0, RANGE, 0, 0, ALL, 0, 0);
        Check.due("0 of a range that does not hold", x.score(9), 1);
        query(x, OR, 0, 0, AND, 0, 0, WORD, 1, 0, WORD, 3, 0, ALL, 0, 0);
        Check.due("also of a part that does not match", x.score(9), 4);
        query(x, AND, 0, 0, NOT, 0, 0, OR, 0, 0, WORD, 3, 0, PHRASE, 3, 3, WORD, 1, 0);
        Check.due("none within a NOT", x.score(9), 3);
        query(x, NOT, 0, 0, NOT, 0, 0, WORD, 1, 0);
        Check.due("nor within two", x.score(9), 0);
        query(x, OR, 0, 0, WORD, 2, 0, NOT, 0, 0, WORD, 15, 0);
        Check.due("none within a NOT", x.score(9), 2);
        Check.due("0", x.score(0), 0);
        hits(x, 0, 9, 0, 2, 4);
        query(x, OR, 0, 0, NOT, 0, 0, WORD, 15, 0, WORD, 2, 0);
        Check.due("what stands behind a NOT counts", x.score(9), 2);
    }

    private static void scoreRefuses() {
        ShardEngine x = shard();
        Check.due("no query", x.score(9), -1);
        query(x, WORD, 1, 0);
        Check.due("does not match", x.score(4), -1);
        Check.due("not visible", x.score(7), -1);
        Check.due("id -1", x.score(-1), -1);
        Check.due("id 16", x.score(16), -1);
        Check.due("id 16", x.score(Integer.MAX_VALUE), -1);
        query(x, NOT, 0, 0, WORD, 1, 0);
        Check.due("not visible", x.score(7), -1);
        x.write(1, 5, Sources.source(1), -1);
        Check.due("not visible yet", x.score(5), -1);
        x.refresh();
        Check.due("visible", x.score(5), 0);
        x.crash(0);
        Check.due("down before refused", x.score(99), -4);
    }
}
