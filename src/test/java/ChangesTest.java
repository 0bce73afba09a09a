/** Promises 12 to 14: torn, bridges, changed. */
final class ChangesTest {
    private static final Check CHECK = new Check();

    public static void main(String[] args) {
        tornTells();
        tornRefuses();
        bridgesTell();
        changedCounts();
        changedCountsPathsNotNames();
        changedRefuses();
        tornOfAllPaths();
        tornOfTheOutermostNodes();
        bridgesOfNothing();
        bridgesOfAllLinks();
        bridgesThatCount();
        changedFromNothing();
        changedToNothing();
        changedOfAll();
        changedWhenDownAndUpAgain();
        changedFollowsTheImage();
        CHECK.end();
    }

    private static void tornTells() {
        MeshNames x = Meshes.line();
        CHECK.due("12 torn(1, 4)", x.torn(1, 4), 2 + 4 + 8 + 32);
        CHECK.due("12 torn(4, 1)", x.torn(4, 1), 2 + 4 + 8 + 32);
        CHECK.due("12 torn(0, 3)", x.torn(0, 3), 1 + 32);
        CHECK.due("12 torn(5, 2)", x.torn(5, 2), 16 + 32);
        MeshNames square = Meshes.chain(Meshes.named(1, 2, 3, 4), 0, 1, 2, 3, 0, 2);
        CHECK.due("12 a LINK on no PATH", square.torn(0, 2), 0);
        CHECK.due("12 a LINK on one PATH", square.torn(3, 0), 8);
    }

    private static void tornRefuses() {
        MeshNames x = Meshes.line();
        CHECK.due("12 torn(8, 8)", x.torn(8, 8), MeshNames.UNKNOWN);
        CHECK.due("12 torn(0, -1)", x.torn(0, -1), MeshNames.UNKNOWN);
        CHECK.due("12 torn(-1, 0)", x.torn(-1, 0), MeshNames.UNKNOWN);
        CHECK.due("12 torn(0, 0)", x.torn(0, 0), MeshNames.OUTSIDE);
        CHECK.due("12 torn(7, 7)", x.torn(7, 7), MeshNames.OUTSIDE);
        CHECK.due("12 no LINK", x.torn(0, 1), MeshNames.NO);
        x.link(5, 6, 1);
        CHECK.due("12 a LINK that does not count", x.torn(5, 6), MeshNames.NO);
        x.link(6, 7, 1);
        CHECK.due("12 a LINK of two that are down", x.torn(6, 7), MeshNames.NO);
        x.down(3);
        CHECK.due("12 a LINK that no more counts", x.torn(3, 0), MeshNames.NO);
    }

    private static void bridgesTell() {
        MeshNames x = Meshes.named(1, 2, 3, 4, 5, 6, 7, 8);
        CHECK.due("13 no LINKS", x.bridges(), 0);
        Meshes.chain(x, 0, 1, 2, 3, 4, 5, 6, 7);
        CHECK.due("13 a line", x.bridges(), 7);
        x.link(0, 2, 1);
        CHECK.due("13 a triangle and a line", x.bridges(), 5);
        x.link(5, 7, 1);
        CHECK.due("13 two triangles and a line", x.bridges(), 3);
        x.link(2, 5, 1);
        CHECK.due("13 rings alone", x.bridges(), 0);
        x.down(3);
        CHECK.due("13 a NODE down", x.bridges(), 2);
        x.link(2, 5, 0);
        CHECK.due("13 two PARTS", x.bridges(), 1);
        x.down(4);
        CHECK.due("13 two PARTS, both rings", x.bridges(), 0);
    }

    private static void changedCounts() {
        MeshNames x = Meshes.chain(Meshes.named(10, 20, 30), 0, 1, 2, 3, 4);
        x.image(0);
        CHECK.due("14 nothing changed", x.changed(0), 0);
        x.up(5, 200);
        CHECK.due("14 UP now, but without a PATH", x.changed(0), 0);
        x.up(3, 40);
        CHECK.due("14 NODE 3 has one now, that of 2 is another", x.changed(0), 2);
        x.up(4, 50);
        CHECK.due("14 NODES 3 and 4 have one now", x.changed(0), 3);
        x.down(3);
        x.down(4);
        CHECK.due("14 as it was", x.changed(0), 0);
        x.down(1);
        CHECK.due("14 two have none where there was one; 1 is not UP", x.changed(0), 2);
        x.down(0);
        CHECK.due("14 those that are not UP do not count", x.changed(0), 1);
        x.image(1);
        CHECK.due("14 the other IMAGE", x.changed(1), 0);
        x.up(0, 10);
        x.up(1, 20);
        CHECK.due("14 one where there was none, and two not UP then", x.changed(1), 3);
        CHECK.due("14 the first IMAGE", x.changed(0), 0);
        x.link(0, 2, 1);
        CHECK.due("14 a shorter PATH from 2", x.changed(0), 1);
    }

    private static void changedCountsPathsNotNames() {
        MeshNames x = Meshes.chain(Meshes.named(10, 20, 30), 0, 1, 2);
        x.image(1);
        x.down(1);
        x.up(1, 25);
        CHECK.due("14 another NAME, the same PATHS", x.changed(1), 0);
        x.down(1);
        x.up(1, 35);
        CHECK.due("14 all lead elsewhere", x.changed(1), 3);
        // of the same length, with the same ends
        MeshNames y = Meshes.chain(Meshes.named(10, 30, 40, 20), 0, 1, 3);
        Meshes.chain(y, 0, 2, 3);
        y.image(0);
        y.link(0, 1, 0);
        CHECK.due("14 from 0 by 2, not 1, and from 1 by 3, not 0", y.changed(0), 2);
        CHECK.due("14 by 2", y.path(0, 1), 2);
    }

    private static void changedRefuses() {
        MeshNames x = Meshes.named(10);
        x.image(1);
        CHECK.due("14 changed(-1)", x.changed(-1), MeshNames.OUTSIDE);
        CHECK.due("14 changed(2)", x.changed(2), MeshNames.OUTSIDE);
        CHECK.due("14 changed(0)", x.changed(0), MeshNames.STATE);
        CHECK.due("14 changed(1)", x.changed(1), 0);
    }

    private static void tornOfAllPaths() {
        MeshNames x = Meshes.crossed();
        CHECK.due("12 all PATHS", x.torn(3, 4), 255);
        CHECK.due("12 all PATHS, in the other order", x.torn(4, 3), 255);
        CHECK.due("12 the first LINK", x.torn(0, 1), 1 + 128);
        CHECK.due("12 the last LINK", x.torn(6, 7), 8 + 128);
    }

    private static void tornOfTheOutermostNodes() {
        MeshNames x = Meshes.chain(Meshes.named(5, -1, -1, -1, -1, -1, -1, 6), 0, 7);
        CHECK.due("12 torn(0, 7)", x.torn(0, 7), 129);
        CHECK.due("12 torn(7, 0)", x.torn(7, 0), 129);
        x.link(0, 7, 0);
        CHECK.due("12 no LINK any more", x.torn(0, 7), MeshNames.NO);
    }

    private static void bridgesOfNothing() {
        MeshNames x = new MeshNames();
        CHECK.due("13 a new object", x.bridges(), 0);
        x.up(0, 1);
        CHECK.due("13 one NODE", x.bridges(), 0);
        x.up(7, 2);
        CHECK.due("13 two NODES", x.bridges(), 0);
        x.link(0, 7, 1);
        CHECK.due("13 two NODES, a LINK", x.bridges(), 1);
    }

    private static void bridgesOfAllLinks() {
        MeshNames x = Meshes.whole();
        CHECK.due("13 all LINKS", x.bridges(), 0);
        MeshNames star = Meshes.named(1, 2, 3, 4, 5, 6, 7, 8);
        for (int node = 0; node < 7; node++) {
            star.link(7, node, 1);
        }
        CHECK.due("13 a star", star.bridges(), 7);
        MeshNames ring = Meshes.chain(Meshes.named(1, 2, 3, 4, 5, 6, 7, 8), 0, 1, 2, 3, 4, 5, 6, 7, 0);
        CHECK.due("13 a ring of eight", ring.bridges(), 0);
        ring.link(7, 0, 0);
        CHECK.due("13 the ring is open", ring.bridges(), 7);
    }

    private static void bridgesThatCount() {
        MeshNames x = Meshes.chain(new MeshNames(), 0, 1, 2);
        CHECK.due("13 no LINK counts", x.bridges(), 0);
        x.up(1, 1);
        CHECK.due("13 one end is UP", x.bridges(), 0);
        x.up(2, 2);
        CHECK.due("13 one LINK counts", x.bridges(), 1);
        // 0 is down: the way by 0 does not hold 1 and 2 together
        x.link(0, 2, 1);
        CHECK.due("13 a way around over a NODE that is down", x.bridges(), 1);
        x.up(0, 3);
        CHECK.due("13 a way around", x.bridges(), 0);
    }

    private static void changedFromNothing() {
        MeshNames x = new MeshNames();
        x.image(0);
        CHECK.due("14 nothing then, nothing now", x.changed(0), 0);
        x.up(0, 10);
        x.link(0, 1, 1);
        CHECK.due("14 UP now, without a PATH", x.changed(0), 0);
        x.image(1);
        x.up(1, 20);
        CHECK.due("14 not UP then, a PATH now", x.changed(0), 2);
        CHECK.due("14 UP then without one, and not UP then", x.changed(1), 2);
    }

    private static void changedToNothing() {
        MeshNames x = Meshes.whole();
        x.image(1);
        for (int node = 0; node < 7; node++) {
            x.down(node);
        }
        CHECK.due("14 one is left, without a PATH", x.changed(1), 1);
        x.down(7);
        CHECK.due("14 none is UP now", x.changed(1), 0);
    }

    private static void changedOfAll() {
        MeshNames x = Meshes.whole();
        x.image(0);
        for (int one = 0; one < 8; one++) {
            x.link(one, (one + 1) % 8, 0);
        }
        CHECK.due("14 all eight", x.changed(0), 8);
        x.link(7, 0, 1);
        CHECK.due("14 all but that of 7", x.changed(0), 7);
        x.link(0, 1, 1);
        CHECK.due("14 all but those of 7 and 0", x.changed(0), 6);
    }

    private static void changedWhenDownAndUpAgain() {
        MeshNames x = Meshes.line();
        x.image(0);
        x.down(1);
        x.up(1, 110);
        CHECK.due("14 the same again", x.changed(0), 0);
        x.down(5);
        x.up(6, 150);
        x.link(2, 6, 1);
        CHECK.due("14 6 in place of 5: that of 4 leads to 6, and 6 has one", x.changed(0), 2);
    }

    private static void changedFollowsTheImage() {
        MeshNames x = Meshes.line();
        x.image(0);
        x.image(1);
        x.link(0, 5, 1);
        CHECK.due("14 a shorter one from 5", x.changed(0), 1);
        x.image(0);
        CHECK.due("14 in place of what was kept", x.changed(0), 0);
        CHECK.due("14 the other IMAGE", x.changed(1), 1);
        x.restore(1);
        CHECK.due("14 restored from the other", x.changed(0), 1);
        CHECK.due("14 restored", x.changed(1), 0);
    }
}
