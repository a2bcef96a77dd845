/** The kinds of tokens, queries of them and what they find, for the tests that extend it. */
abstract class Queries {
    static final int ALL = 0;
    static final int WORD = 1;
    static final int PHRASE = 2;
    static final int RANGE = 3;
    static final int AND = 4;
    static final int OR = 5;
    static final int NOT = 6;

    /** Replaces the query by tokens (kind, a, b). */
    static void query(ShardEngine x, int... tokens) {
        x.ask(7, 0, 0);
        for (int i = 0; i < tokens.length; i += 3) {
            Check.due("ask", x.ask(tokens[i], tokens[i + 1], tokens[i + 2]), i / 3 + 1);
        }
    }

    static void found(String what, ShardEngine x, int sort, int... ids) {
        Check.due(what + ": how many", x.hit(sort, -1), ids.length);
        for (int k = 0; k < ids.length; k++) {
            Check.due(what + ": hit " + k, x.hit(sort, k), ids[k]);
        }
        Check.due(what + ": one more", x.hit(sort, ids.length), -1);
    }
}
