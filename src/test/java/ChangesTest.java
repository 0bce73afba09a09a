/** Promises 12 to 14: torn, bridges, changed. */
final class ChangesTest {
    private static final Check CHECK = new Check();

    public static void main(String[] args) {
        tornTells();
        tornRefuses();
        bridgesTell();
        changedCounts();
        changedCountsPathsNotNames();
        changedRefuses();
        CHECK.end();
    }

    private static void tornTells() {
        MeshNames x = Meshes.line();
        CHECK.due("12 torn(1, 4)", x.torn(1, 4), 2 + 4 + 8 + 32);
        CHECK.due("12 torn(4, 1)", x.torn(4, 1), 2 + 4 + 8 + 32);
        CHECK.due("12 torn(0, 3)", x.torn(0, 3), 1 + 32);
        CHECK.due("12 torn(5, 2)", x.torn(5, 2), 16 + 32);
        MeshNames square = Meshes.chain(Meshes.named(1, 2, 3, 4), 0, 1, 2, 3, 0, 2);
        CHECK.due("12 a LINK on no PATH", square.torn(0, 2), 0);
        CHECK.due("12 a LINK on one PATH", square.torn(3, 0), 8);
    }

    private static void tornRefuses() {
        MeshNames x = Meshes.line();
        CHECK.due("12 torn(8, 8)", x.torn(8, 8), MeshNames.UNKNOWN);
        CHECK.due("12 torn(0, -1)", x.torn(0, -1), MeshNames.UNKNOWN);
        CHECK.due("12 torn(-1, 0)", x.torn(-1, 0), MeshNames.UNKNOWN);
        CHECK.due("12 torn(0, 0)", x.torn(0, 0), MeshNames.OUTSIDE);
        CHECK.due("12 torn(7, 7)", x.torn(7, 7), MeshNames.OUTSIDE);
        CHECK.due("12 no LINK", x.torn(0, 1), MeshNames.NO);
        x.link(5, 6, 1);
        CHECK.due("12 a LINK that does not count", x.torn(5, 6), MeshNames.NO);
        x.link(6, 7, 1);
        CHECK.due("12 a LINK of two that are down", x.torn(6, 7), MeshNames.NO);
        x.down(3);
        CHECK.due("12 a LINK that no more counts", x.torn(3, 0), MeshNames.NO);
    }

    private static void bridgesTell() {
        MeshNames x = Meshes.named(1, 2, 3, 4, 5, 6, 7, 8);
        CHECK.due("13 no LINKS", x.bridges(), 0);
        Meshes.chain(x, 0, 1, 2, 3, 4, 5, 6, 7);
        CHECK.due("13 a line", x.bridges(), 7);
        x.link(0, 2, 1);
        CHECK.due("13 a triangle and a line", x.bridges(), 5);
        x.link(5, 7, 1);
        CHECK.due("13 two triangles and a line", x.bridges(), 3);
        x.link(2, 5, 1);
        CHECK.due("13 rings alone", x.bridges(), 0);
        x.down(3);
        CHECK.due("13 a NODE down", x.bridges(), 2);
        x.link(2, 5, 0);
        CHECK.due("13 two PARTS", x.bridges(), 1);
        x.down(4);
        CHECK.due("13 two PARTS, both rings", x.bridges(), 0);
    }

    private static void changedCounts() {
        MeshNames x = Meshes.chain(Meshes.named(10, 20, 30), 0, 1, 2, 3, 4);
        x.image(0);
        CHECK.due("14 nothing changed", x.changed(0), 0);
        x.up(5, 200);
        CHECK.due("14 UP now, but without a PATH", x.changed(0), 0);
        x.up(3, 40);
        CHECK.due("14 NODE 3 has one now, that of 2 is another", x.changed(0), 2);
        x.up(4, 50);
        CHECK.due("14 NODES 3 and 4 have one now", x.changed(0), 3);
        x.down(3);
        x.down(4);
        CHECK.due("14 as it was", x.changed(0), 0);
        x.down(1);
        CHECK.due("14 two have none where there was one; 1 is not UP", x.changed(0), 2);
        x.down(0);
        CHECK.due("14 those that are not UP do not count", x.changed(0), 1);
        x.image(1);
        CHECK.due("14 the other IMAGE", x.changed(1), 0);
        x.up(0, 10);
        x.up(1, 20);
        CHECK.due("14 one where there was none, and two not UP then", x.changed(1), 3);
        CHECK.due("14 the first IMAGE", x.changed(0), 0);
        x.link(0, 2, 1);
        CHECK.due("14 a shorter PATH from 2", x.changed(0), 1);
    }

    private static void changedCountsPathsNotNames() {
        MeshNames x = Meshes.chain(Meshes.named(10, 20, 30), 0, 1, 2);
        x.image(1);
        x.down(1);
        x.up(1, 25);
        CHECK.due("14 another NAME, the same PATHS", x.changed(1), 0);
        x.down(1);
        x.up(1, 35);
        CHECK.due("14 all lead elsewhere", x.changed(1), 3);
        // of the same length, with the same ends
        MeshNames y = Meshes.chain(Meshes.named(10, 30, 40, 20), 0, 1, 3);
        Meshes.chain(y, 0, 2, 3);
        y.image(0);
        y.link(0, 1, 0);
        CHECK.due("14 from 0 by 2, not 1, and from 1 by 3, not 0", y.changed(0), 2);
        CHECK.due("14 by 2", y.path(0, 1), 2);
    }

    private static void changedRefuses() {
        MeshNames x = Meshes.named(10);
        x.image(1);
        CHECK.due("14 changed(-1)", x.changed(-1), MeshNames.OUTSIDE);
        CHECK.due("14 changed(2)", x.changed(2), MeshNames.OUTSIDE);
        CHECK.due("14 changed(0)", x.changed(0), MeshNames.STATE);
        CHECK.due("14 changed(1)", x.changed(1), 0);
    }
}
