/** Sentences of the terms on queries, scores and sorts, and of promises 13 to 16: ask, hit, after, score. */
final class SearchSentences extends Queries {
    private static final int LEAST = Integer.MIN_VALUE;
    private static final int GREATEST = Integer.MAX_VALUE;
    private static final String TERMS = "terms";

    private SearchSentences() {
    }

    static void run() {
        queries();
        scores();
        asks();
        hits();
    }

    private static void queries() {
        Sentence.test(TERMS, "QUERIES are rows of 1 .. 15 TOKENS (kind, a, b),",
            "0, 1 and 15 of them", SearchSentences::tokens);
        Sentence.test(TERMS, "prefix first:",
            "one operand too few, one too many, behind instead of before", SearchSentences::prefix);
        Sentence.test(TERMS, "0 ALL;", "no document, all of them", SearchSentences::all);
        Sentence.test(TERMS, "1 WORD a (1 .. 15);", "0, 1, 15, 16; b is free", SearchSentences::word);
        Sentence.test(TERMS, "2 PHRASE a b (1 .. 15 each): word a with b right behind it;",
            "0, 1, 15, 16; not before it, not apart, not over the end", SearchSentences::phrase);
        Sentence.test(TERMS, "3 RANGE a b: numbers a .. b (ints; none if a > b);",
            "both ends, one number, none, all", SearchSentences::range);
        Sentence.test(TERMS, "4 AND, 5 OR with two queries behind them, 6 NOT with one.",
            "each pair of truths", SearchSentences::joined);
        Sentence.test(TERMS, "What it MATCHES of the visible documents is as one expects.",
            "only the visible ones", SearchSentences::onlyVisible);
    }

    private static void scores() {
        Sentence.test(TERMS, "The SCORE of a document that matches is the sum over all tokens that are not within a "
            + "NOT:", "within one, within two, behind one, in a part that does not match", SearchSentences::sum);
        Sentence.test(TERMS, "of WORD how often it stands in the text,", "1 and 8", SearchSentences::wordScore);
        Sentence.test(TERMS, "of PHRASE twice how often,", "1, 7 that overlap", SearchSentences::phraseScore);
        Sentence.test(TERMS, "of ALL and of a RANGE that holds 1.",
            "one that does not hold", SearchSentences::rangeScore);
        Sentence.test(TERMS, "SORTS: 0 by score, the greatest first; 1 by number, the least first; 2 by number, the "
            + "greatest first;", "scores 0 and 112, the least and the greatest int", SearchSentences::sorts);
        Sentence.test(TERMS, "in all three those that are alike by id, the least first.",
            "all alike, two alike", SearchSentences::alike);
        Sentence.test(TERMS, "The KEY of a document in a sort is its score or number.",
            "each hit behind the one before", SearchSentences::keys);
    }

    private static void asks() {
        String place = "promise 13";
        Sentence.test(place, "Appends a token to the query: how many there are; FULL if 15.",
            "1 to 15, one more, REFUSED before FULL", SearchSentences::askCounts);
        Sentence.test(place, "Kind 7 empties it: 0.",
            "empty, full, DOWN, any a and b; kinds -1 and 8", SearchSentences::askEmpties);
    }

    private static void hits() {
        String place = "promise 14";
        Sentence.test(place, "The id of the k-th (0 first) document that the query matches in a sort;",
            "the first, the last, one more", SearchSentences::kth);
        Sentence.test(place, "k -1: how many it matches (any sort of 0 .. 2).",
            "0, all; sorts -1 and 3; k -2", SearchSentences::howMany);
        Sentence.test(place, "REFUSED also if the query is not one.",
            "empty, not whole, k -1 too", SearchSentences::notOne);
        Sentence.test("promise 15", "The first document that it matches which comes behind key and id (any ints) in a "
            + "sort: its id;", "the least and the greatest key and id", SearchSentences::after);
        Sentence.test("promise 15", "REFUSED likewise, or if there is none.",
            "behind the last, sorts -1 and 3, no query", SearchSentences::afterRefused);
        Sentence.test("promise 16", "The score of a document;", "0, 112", SearchSentences::score);
        Sentence.test("promise 16", "REFUSED likewise, or if it does not match.",
            "ids -1 and 16, not visible, no query", SearchSentences::scoreRefused);
    }

    /** Documents 0, 1, .. with these sources, visible. */
    private static ShardEngine shard(long... sources) {
        ShardEngine x = new ShardEngine();
        for (int id = 0; id < sources.length; id++) {
            if (id == 12) {
                x.sync(true);
            }
            x.write(1, id, sources[id], -1);
        }
        x.refresh();
        return x;
    }

    private static void tokens() {
        ShardEngine x = shard(0L, 1L);
        found("one", askedKinds(x, ALL), 0, 0, 1);
        Check.due("none", askedKinds(x).hit(0, -1), -1);
        int[] nots = new int[15];
        java.util.Arrays.fill(nots, NOT);
        nots[14] = ALL;
        found("14 NOT and ALL", askedKinds(x, nots), 0, 0, 1);
        nots[13] = ALL;
        Check.due("13 NOT and two ALL", askedKinds(x, nots).hit(0, -1), -1);
        int[] ands = {AND, AND, AND, AND, AND, AND, AND, ALL, ALL, ALL, ALL, ALL, ALL, ALL, ALL};
        found("7 AND and 8 ALL", askedKinds(x, ands), 0, 0, 1);
        int[] right = {OR, ALL, OR, ALL, OR, ALL, OR, ALL, OR, ALL, OR, ALL, OR, ALL, ALL};
        found("7 OR, each in the one before", askedKinds(x, right), 0, 0, 1);
        Check.due("their score", x.score(0), 8);
    }

    /** The shard, asked for tokens of these kinds with words 1. */
    private static ShardEngine askedKinds(ShardEngine x, int... kinds) {
        x.ask(7, 0, 0);
        for (int kind : kinds) {
            x.ask(kind, 1, 1);
        }
        return x;
    }

    private static void prefix() {
        ShardEngine x = shard(0L);
        int[][] none = {{AND}, {OR}, {NOT}, {AND, ALL}, {OR, ALL}, {NOT, NOT}, {ALL, ALL}, {AND, ALL, ALL, ALL},
            {NOT, ALL, ALL}, {ALL, ALL, AND}, {ALL, AND, ALL}, {ALL, NOT}, {AND, NOT, ALL}, {AND, ALL, NOT},
            {ALL, NOT, ALL}, {OR, AND, ALL, ALL}};
        for (int[] kinds : none) {
            Check.due("not one", askedKinds(x, kinds).hit(0, -1), -1);
        }
        int[][] whole = {{ALL}, {AND, ALL, ALL}, {OR, ALL, ALL}, {NOT, NOT, ALL}, {AND, NOT, NOT, ALL, ALL},
            {OR, ALL, AND, ALL, ALL}, {OR, AND, ALL, ALL, ALL}};
        for (int[] kinds : whole) {
            Check.due("one", askedKinds(x, kinds).hit(0, -1), 1);
        }
    }

    private static void all() {
        ShardEngine x = shard();
        query(x, ALL, 0, 0);
        found("no document", x, 0);
        x = shard(new long[16]);
        query(x, ALL, LEAST, GREATEST);
        found("all", x, 0, 0, 1, 2, 3, 4, 5, 6, 7, 8, 9, 10, 11, 12, 13, 14, 15);
    }

    private static void word() {
        ShardEngine x = shard(Sources.source(0, 1), Sources.source(0, 15), Sources.source(0));
        int[] none = {0, 16, -1, 17, LEAST, GREATEST};
        for (int word : none) {
            Check.due("WORD " + word, x.ask(WORD, word, 1), -1);
        }
        query(x, WORD, 1, 0);
        found("1", x, 0, 0);
        query(x, WORD, 15, 16);
        found("15", x, 0, 1);
        query(x, WORD, 2, -1);
        found("2", x, 0);
    }

    private static void phrase() {
        ShardEngine x = shard(Sources.source(0, 1, 15), Sources.source(0, 15, 1), Sources.source(0, 1, 2, 15),
            Sources.source(0, 1, 0, 15), Sources.source(15, 2, 2, 2, 2, 2, 2, 2, 1),
            Sources.source(0, 2, 2, 2, 2, 2, 2, 1, 15), Sources.source(15 << 28, 1, 15));
        int[][] none = {{0, 1}, {1, 0}, {16, 1}, {1, 16}, {-1, 1}, {1, -1}, {LEAST, 1}, {1, GREATEST}};
        for (int[] p : none) {
            Check.due("PHRASE " + p[0] + " " + p[1], x.ask(PHRASE, p[0], p[1]), -1);
        }
        query(x, PHRASE, 1, 15);
        found("1 15", x, 1, 6, 0, 5);
        query(x, PHRASE, 15, 1);
        found("15 1", x, 0, 1);
        query(x, PHRASE, 15, 15);
        found("15 15", x, 0);
    }

    private static void range() {
        ShardEngine x = shard(LEAST, -1L, 0L, 7L, GREATEST);
        x.write(1, 1, Sources.source(-1, 3), -1);
        x.write(1, 0, Sources.source(LEAST, 3), -1);
        x.refresh();
        query(x, RANGE, 0, 7);
        found("both ends", x, 1, 2, 3);
        query(x, RANGE, 1, 6);
        found("between", x, 1);
        query(x, RANGE, 7, 7);
        found("one number", x, 1, 3);
        query(x, RANGE, 8, 7);
        found("a > b", x, 1);
        query(x, RANGE, GREATEST, LEAST);
        found("a > b", x, 1);
        query(x, RANGE, LEAST, GREATEST);
        found("all", x, 1, 0, 1, 2, 3, 4);
        query(x, RANGE, LEAST, -1);
        found("below 0", x, 1, 0, 1);
        query(x, RANGE, GREATEST, GREATEST);
        found("the greatest", x, 1, 4);
        query(x, RANGE, LEAST, LEAST);
        found("the least", x, 1, 0);
    }

    private static void joined() {
        ShardEngine x = shard(Sources.source(0), Sources.source(1, 1), Sources.source(2, 2), Sources.source(3, 1, 2));
        query(x, AND, 0, 0, WORD, 1, 0, WORD, 2, 0);
        found("AND", x, 1, 3);
        query(x, OR, 0, 0, WORD, 1, 0, WORD, 2, 0);
        found("OR", x, 1, 1, 2, 3);
        query(x, NOT, 0, 0, WORD, 1, 0);
        found("NOT", x, 1, 0, 2);
        query(x, AND, 9, 9, NOT, LEAST, -1, WORD, 1, 0, NOT, 0, GREATEST, WORD, 2, 0);
        found("AND of two NOT", x, 1, 0);
        query(x, NOT, 0, 0, AND, 0, 0, WORD, 1, 0, WORD, 2, 0);
        found("NOT of AND", x, 1, 0, 1, 2);
        query(x, NOT, 0, 0, OR, 0, 0, WORD, 1, 0, WORD, 2, 0);
        found("NOT of OR", x, 1, 0);
        query(x, OR, 0, 0, AND, 0, 0, NOT, 0, 0, WORD, 1, 0, WORD, 2, 0, RANGE, 0, 0);
        found("OR of AND and a RANGE", x, 1, 0, 2);
    }

    private static void onlyVisible() {
        ShardEngine x = shard(Sources.source(0, 1), Sources.source(1, 1), Sources.source(2, 1));
        x.write(1, 3, Sources.source(3, 1), -1);
        x.write(2, 0, 0L, -1);
        x.write(1, 1, Sources.source(9, 2), -1);
        query(x, WORD, 1, 0);
        found("as at the refresh point", x, 1, 0, 1, 2);
        query(x, NOT, 0, 0, WORD, 1, 0);
        found("NOT, of the visible ones", x, 1);
        x.refresh();
        found("NOT, behind the next refresh", x, 1, 1);
        query(x, WORD, 1, 0);
        found("behind the next refresh", x, 1, 2, 3);
    }

    private static void sum() {
        ShardEngine x = shard(Sources.source(5, 1, 2, 1, 2, 1));
        query(x, AND, 0, 0, WORD, 1, 0, AND, 0, 0, PHRASE, 1, 2, AND, 0, 0, ALL, 0, 0, RANGE, 5, 5);
        Check.due("all of them", x.score(0), 3 + 4 + 1 + 1);
        query(x, AND, 0, 0, NOT, 0, 0, OR, 0, 0, WORD, 9, 0, NOT, 0, 0, WORD, 1, 0, WORD, 2, 0);
        Check.due("within one and within two; behind", x.score(0), 2);
        query(x, NOT, 0, 0, NOT, 0, 0, AND, 0, 0, WORD, 1, 0, ALL, 0, 0);
        Check.due("within two", x.score(0), 0);
        query(x, OR, 0, 0, WORD, 2, 0, NOT, 0, 0, WORD, 9, 0);
        Check.due("before one", x.score(0), 2);
        query(x, OR, 0, 0, ALL, 0, 0, AND, 0, 0, WORD, 1, 0, WORD, 9, 0);
        Check.due("also in a part that does not match", x.score(0), 4);
        query(x, OR, 0, 0, NOT, 0, 0, WORD, 1, 0, ALL, 0, 0);
        Check.due("a NOT that does not match", x.score(0), 1);
        query(x, OR, 0, 0, WORD, 1, 0, WORD, 1, 0);
        Check.due("each token for itself", x.score(0), 6);
    }

    private static void wordScore() {
        ShardEngine x = shard(Sources.source(0, 4, 4, 4, 4, 4, 4, 4, 4), Sources.source(0, 1, 4), Sources.source(4));
        query(x, WORD, 4, 0);
        Check.due("eight times", x.score(0), 8);
        Check.due("once", x.score(1), 1);
        query(x, OR, 0, 0, WORD, 4, 0, ALL, 0, 0);
        Check.due("never", x.score(2), 1);
    }

    private static void phraseScore() {
        ShardEngine x = shard(Sources.source(0, 4, 4, 4, 4, 4, 4, 4, 4), Sources.source(0, 1, 4, 4),
            Sources.source(0, 4));
        query(x, OR, 0, 0, PHRASE, 4, 4, NOT, 0, 0, ALL, 0, 0);
        Check.due("seven times", x.score(0), 14);
        Check.due("once", x.score(1), 2);
        Check.due("never", x.score(2), -1);
    }

    private static void rangeScore() {
        ShardEngine x = shard(5L);
        query(x, ALL, 0, 0);
        Check.due("ALL", x.score(0), 1);
        query(x, RANGE, 5, 9);
        Check.due("at its least number", x.score(0), 1);
        query(x, RANGE, 1, 5);
        Check.due("at its greatest number", x.score(0), 1);
        query(x, OR, 0, 0, RANGE, 6, 9, OR, 0, 0, RANGE, 1, 4, ALL, 0, 0);
        Check.due("those that do not hold are 0", x.score(0), 1);
        query(x, OR, 0, 0, RANGE, 9, 1, ALL, 0, 0);
        Check.due("nor one of none", x.score(0), 1);
    }

    /** Numbers 3, least, greatest, -1; words 3 none, eight times, once, twice. */
    private static ShardEngine sortedShard() {
        return shard(Sources.source(3), Sources.source(LEAST, 3, 3, 3, 3, 3, 3, 3, 3), Sources.source(GREATEST, 3),
            Sources.source(-1, 3, 3));
    }

    /** Seven OR over eight times PHRASE 3 3: the greatest score that there can be is 8 * 14. */
    private static void askGreatest(ShardEngine x) {
        x.ask(7, 0, 0);
        for (int i = 0; i < 15; i++) {
            x.ask(i < 7 ? OR : PHRASE, 3, 3);
        }
    }

    private static void sorts() {
        ShardEngine x = sortedShard();
        query(x, OR, 0, 0, WORD, 3, 0, NOT, 0, 0, WORD, 3, 0);
        found("by score", x, 0, 1, 3, 2, 0);
        found("by number, the least first", x, 1, 1, 3, 0, 2);
        found("by number, the greatest first", x, 2, 2, 0, 3, 1);
        askGreatest(x);
        found("scores 112 and 16", x, 0, 1, 3);
    }

    private static void alike() {
        ShardEngine x = shard(new long[16]);
        query(x, ALL, 0, 0);
        for (int sort = 0; sort <= 2; sort++) {
            found("all alike, sort " + sort, x, sort, 0, 1, 2, 3, 4, 5, 6, 7, 8, 9, 10, 11, 12, 13, 14, 15);
        }
        x = shard(Sources.source(7, 1), Sources.source(8), Sources.source(7), Sources.source(6, 1), Sources.source(8));
        query(x, OR, 0, 0, ALL, 0, 0, WORD, 1, 0);
        found("scores 2 1 1 2 1", x, 0, 0, 3, 1, 2, 4);
        found("numbers 7 8 7 6 8", x, 1, 3, 0, 2, 1, 4);
        found("numbers 7 8 7 6 8", x, 2, 1, 4, 0, 2, 3);
    }

    private static void keys() {
        ShardEngine x = sortedShard();
        query(x, OR, 0, 0, WORD, 3, 0, NOT, 0, 0, WORD, 3, 0);
        for (int sort = 0; sort <= 2; sort++) {
            for (int k = 0; k < 4; k++) {
                int id = x.hit(sort, k);
                int key = sort == 0 ? x.score(id) : (int) x.get(id);
                Check.due("sort " + sort + ", behind hit " + k, x.after(sort, key, id), x.hit(sort, k + 1));
                Check.due("sort " + sort + ", behind a lesser id", x.after(sort, key, id - 1), id);
            }
        }
    }

    private static void askCounts() {
        ShardEngine x = new ShardEngine();
        for (int i = 1; i <= 15; i++) {
            Check.due("how many", x.ask(i % 7, 1 + i % 15, 15), i);
        }
        for (int kind = 0; kind <= 6; kind++) {
            Check.due("one more", x.ask(kind, 1, 1), -3);
        }
        Check.due("REFUSED before FULL", x.ask(8, 1, 1), -1);
        Check.due("REFUSED before FULL", x.ask(WORD, 0, 1), -1);
        x.ask(7, 0, 0);
        Check.due("again", x.ask(ALL, 0, 0), 1);
    }

    private static void askEmpties() {
        ShardEngine x = shard(0L);
        Check.due("empty", x.ask(7, 0, 0), 0);
        for (int i = 0; i < 16; i++) {
            x.ask(NOT, 0, 0);
        }
        Check.due("full, any a and b", x.ask(7, LEAST, GREATEST), 0);
        Check.due("no query", x.hit(0, -1), -1);
        Check.due("from the beginning", x.ask(ALL, 0, 0), 1);
        int[] none = {-1, 8, LEAST, GREATEST};
        for (int kind : none) {
            Check.due("kind " + kind, x.ask(kind, 1, 1), -1);
        }
        x.crash(0);
        Check.due("DOWN", x.ask(NOT, 0, 0), 2);
        Check.due("DOWN", x.ask(7, 0, 0), 0);
        Check.due("DOWN", x.ask(ALL, 0, 0), 1);
    }

    private static void kth() {
        ShardEngine x = sortedShard();
        query(x, WORD, 3, 0);
        int[][] ids = {{1, 3, 2}, {1, 3, 2}, {2, 3, 1}};
        for (int sort = 0; sort <= 2; sort++) {
            for (int k = 0; k < 3; k++) {
                Check.due("sort " + sort + ", k " + k, x.hit(sort, k), ids[sort][k]);
            }
            Check.due("one more", x.hit(sort, 3), -1);
            Check.due("the greatest k", x.hit(sort, GREATEST), -1);
        }
    }

    private static void howMany() {
        ShardEngine x = sortedShard();
        query(x, ALL, 0, 0);
        for (int sort = 0; sort <= 2; sort++) {
            Check.due("sort " + sort, x.hit(sort, -1), 4);
            Check.due("k -2", x.hit(sort, -2), -1);
            Check.due("the least k", x.hit(sort, LEAST), -1);
        }
        int[] none = {-1, 3, LEAST, GREATEST};
        for (int sort : none) {
            Check.due("sort " + sort, x.hit(sort, -1), -1);
            Check.due("sort " + sort + ", k 0", x.hit(sort, 0), -1);
        }
        query(x, WORD, 15, 0);
        Check.due("none", x.hit(0, -1), 0);
        Check.due("and so no first", x.hit(0, 0), -1);
    }

    private static void notOne() {
        ShardEngine x = sortedShard();
        int[][] none = {{}, {NOT}, {AND, ALL}, {ALL, ALL}};
        for (int[] kinds : none) {
            askedKinds(x, kinds);
            for (int sort = 0; sort <= 2; sort++) {
                Check.due("k -1", x.hit(sort, -1), -1);
                Check.due("k 0", x.hit(sort, 0), -1);
            }
        }
    }

    private static void after() {
        ShardEngine x = sortedShard();
        query(x, OR, 0, 0, WORD, 3, 0, NOT, 0, 0, WORD, 3, 0);
        int[][] rows = {{0, GREATEST, GREATEST, 1}, {0, 9, 0, 1}, {0, 8, 0, 1}, {0, 8, 1, 3}, {0, 0, -1, 0},
            {0, 0, LEAST, 0}, {1, LEAST, LEAST, 1}, {1, LEAST, 0, 1}, {1, LEAST, 1, 3}, {1, LEAST + 1, LEAST, 3},
            {1, GREATEST, 1, 2}, {1, 4, GREATEST, 2}, {2, GREATEST, LEAST, 2}, {2, GREATEST, 1, 2}, {2, GREATEST, 2, 0},
            {2, 0, GREATEST, 3}, {2, LEAST, 0, 1}, {2, LEAST + 1, GREATEST, 1}};
        for (int[] r : rows) {
            Check.due("after(" + r[0] + ", " + r[1] + ", " + r[2] + ")", x.after(r[0], r[1], r[2]), r[3]);
        }
    }

    private static void afterRefused() {
        ShardEngine x = sortedShard();
        query(x, OR, 0, 0, WORD, 3, 0, NOT, 0, 0, WORD, 3, 0);
        int[][] rows = {{0, 0, 0}, {0, -1, LEAST}, {0, LEAST, LEAST}, {1, GREATEST, 2}, {1, GREATEST, GREATEST},
            {2, LEAST, 1}, {2, LEAST, GREATEST}, {-1, 0, 0}, {3, 0, 0}, {LEAST, 0, 0}, {GREATEST, 0, 0}};
        for (int[] r : rows) {
            Check.due("after(" + r[0] + ", " + r[1] + ", " + r[2] + ")", x.after(r[0], r[1], r[2]), -1);
        }
        query(x, WORD, 15, 0);
        Check.due("matches none", x.after(0, GREATEST, 0), -1);
        Check.due("no query", askedKinds(x).after(0, GREATEST, 0), -1);
        Check.due("not whole", askedKinds(x, NOT).after(0, GREATEST, 0), -1);
    }

    private static void score() {
        ShardEngine x = sortedShard();
        askGreatest(x);
        Check.due("the greatest", x.score(1), 112);
        query(x, NOT, 0, 0, WORD, 3, 0);
        Check.due("the least", x.score(0), 0);
    }

    private static void scoreRefused() {
        ShardEngine x = sortedShard();
        query(x, WORD, 3, 0);
        int[] none = {0, 4, 15, -1, 16, LEAST, GREATEST};
        for (int id : none) {
            Check.due("id " + id, x.score(id), -1);
        }
        query(x, NOT, 0, 0, WORD, 3, 0);
        Check.due("matches by NOT, but is not visible", x.score(4), -1);
        x.write(1, 4, Sources.source(1, 5), -1);
        Check.due("not visible yet", x.score(4), -1);
        x.write(2, 0, 0L, -1);
        Check.due("deleted, but visible", x.score(0), 0);
        Check.due("no query", askedKinds(x).score(0), -1);
        Check.due("not whole", askedKinds(x, OR, ALL).score(0), -1);
    }
}
