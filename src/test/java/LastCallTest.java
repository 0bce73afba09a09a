/** "An object is used for at most 512 calls": whatever the calls ahead of it were, the 512th is answered rightly. */
final class LastCallTest {
    private static final Check CHECK = new Check();
    /** Meshes.line() makes eleven calls. */
    private static final int AHEAD = 11;
    private static final int CALLS = 512;
    private static final int BEHIND = 100;

    private interface Call {
        int on(MeshNames x, int i);
    }

    public static void main(String[] args) {
        aheadOfTheLast("up, down", (x, i) -> i % 2 == 0 ? x.down(5) : x.up(5, 150), 150, 6);
        aheadOfTheLast("link", (x, i) -> x.link(0, 5, 1 - i % 2), 6, 5);
        aheadOfTheLast("of", (x, i) -> x.of(3, 5), 4, 4);
        aheadOfTheLast("path", (x, i) -> x.path(5, 5), 0, 0);
        aheadOfTheLast("over", (x, i) -> x.over(0, 3 + i % 2), 1, 0);
        aheadOfTheLast("owner", (x, i) -> x.owner(0, 145 + i % 2), 4, 5);
        aheadOfTheLast("route", (x, i) -> x.route(0, 150, 5 + i % 2), 5, MeshNames.NONE);
        aheadOfTheLast("spare", (x, i) -> x.spare(0, 150), 0, 0);
        aheadOfTheLast("worst", (x, i) -> x.worst(2 + i % 2), 5, 1);
        aheadOfTheLast("torn", (x, i) -> x.torn(0, 3), 33, 33);
        aheadOfTheLast("bridges", (x, i) -> x.bridges(), 5, 5);
        aheadOfTheLast("image, changed", (x, i) -> i % 2 == 0 ? x.image(1) : x.changed(1), 1, 0);
        aheadOfTheLast("image, restore", (x, i) -> i % 2 == 0 ? x.image(0) : x.restore(0), 1, 1);
        aheadOfTheLast("count", (x, i) -> x.count(5), 22, 22);
        aheadOfTheLast("refused", (x, i) -> i % 2 == 0 ? x.up(0, 1) : x.down(8), MeshNames.STATE, MeshNames.UNKNOWN);
        CHECK.end();
    }

    private static void aheadOfTheLast(String what, Call ahead, int dueEven, int dueOdd) {
        last(what, ahead, dueEven, dueOdd, "up(6, 7)", (x, i) -> x.up(6, 7), 7);
        last(what, ahead, dueEven, dueOdd, "down(0)", (x, i) -> x.down(0), 100);
        last(what, ahead, dueEven, dueOdd, "link(6, 7, 1)", (x, i) -> x.link(6, 7, 1), 6);
        last(what, ahead, dueEven, dueOdd, "of(4, 6)", (x, i) -> x.of(4, 6), 5);
        last(what, ahead, dueEven, dueOdd, "path(5, -1)", (x, i) -> x.path(5, -1), 6);
        last(what, ahead, dueEven, dueOdd, "over(5, 1)", (x, i) -> x.over(5, 1), 1);
        last(what, ahead, dueEven, dueOdd, "owner(0, 115)", (x, i) -> x.owner(0, 115), 1);
        last(what, ahead, dueEven, dueOdd, "route(5, 100, -1)", (x, i) -> x.route(5, 100, -1), 5);
        last(what, ahead, dueEven, dueOdd, "spare(5, 100)", (x, i) -> x.spare(5, 100), 0);
        last(what, ahead, dueEven, dueOdd, "worst(3)", (x, i) -> x.worst(3), 1);
        last(what, ahead, dueEven, dueOdd, "torn(1, 4)", (x, i) -> x.torn(1, 4), 46);
        last(what, ahead, dueEven, dueOdd, "bridges()", (x, i) -> x.bridges(), 5);
        last(what, ahead, dueEven, dueOdd, "image(1)", (x, i) -> x.image(1), 1);
        last(what, ahead, dueEven, dueOdd, "count(6)", (x, i) -> x.count(6), 63);
    }

    private static void last(String what, Call ahead, int dueEven, int dueOdd, String name, Call last, int due) {
        MeshNames x = Meshes.line();
        for (int i = 0; i < CALLS - AHEAD - 1; i++) {
            CHECK.due(what + ", call " + (AHEAD + i + 1), ahead.on(x, i), i % 2 == 0 ? dueEven : dueOdd);
        }
        CHECK.due("512th behind " + what + ": " + name, last.on(x, 0), due);
        // what later calls answer is free, but none may throw
        for (int i = 0; i < BEHIND; i++) {
            ahead.on(x, i);
            last.on(x, i);
        }
    }
}
