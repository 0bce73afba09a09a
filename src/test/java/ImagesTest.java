import java.util.Arrays;

/** Promises 15 to 17: image, restore, count. */
final class ImagesTest {
    private static final Check CHECK = new Check();

    public static void main(String[] args) {
        imageKeeps();
        imageRefuses();
        restoreBrings();
        restoreLeavesImages();
        restoreRefuses();
        countTells();
        countRefuses();
        imageOfNothing();
        imageChangesNothingElse();
        restoreBringsAll();
        restoreToNothing();
        restoreTwice();
        countAtMost();
        countWhichImages();
        CHECK.end();
    }

    private static void imageKeeps() {
        MeshNames x = Meshes.line();
        CHECK.due("15 image(1)", x.image(1), 1);
        CHECK.due("15 count(7)", x.count(7), 2);
        CHECK.due("15 keeping changes nothing else", x.count(5), 22);
        CHECK.due("15 image(0)", x.image(0), 1);
        CHECK.due("15 count(7)", x.count(7), 3);
        x.down(5);
        CHECK.due("15 in place of what was kept", x.image(0), 1);
        x.down(4);
        x.restore(0);
        CHECK.due("15 the later one", x.count(6), 31);
        x.restore(1);
        CHECK.due("15 the other is not touched", x.count(6), 63);
    }

    private static void imageRefuses() {
        MeshNames x = Meshes.line();
        CHECK.due("15 image(-1)", x.image(-1), MeshNames.OUTSIDE);
        CHECK.due("15 image(2)", x.image(2), MeshNames.OUTSIDE);
        CHECK.due("15 image(MIN)", x.image(Integer.MIN_VALUE), MeshNames.OUTSIDE);
        CHECK.due("15 none is kept", x.count(7), 0);
    }

    private static void restoreBrings() {
        MeshNames x = Meshes.line();
        x.link(6, 7, 1);
        x.image(0);
        x.link(6, 7, 0);
        x.link(0, 5, 1);
        x.down(1);
        x.down(2);
        x.up(2, 7);
        x.up(7, 110);
        CHECK.due("16 restore(0)", x.restore(0), 1);
        CHECK.due("16 who is UP", x.count(6), 63);
        CHECK.due("16 LINKS", x.count(1), 6);
        CHECK.due("16 no LINK from 0 to 5", x.torn(0, 5), MeshNames.NO);
        CHECK.due("16 NAMES", x.of(2, 0), 120);
        CHECK.due("16 NAMES", x.of(1, 0), 110);
        CHECK.due("16 PATHS", x.path(5, -1), 6);
        CHECK.due("16 PATHS", x.path(2, 2), 1);
        CHECK.due("16 none is changed", x.changed(0), 0);
        CHECK.due("16 its NAMES are taken", x.up(7, 110), MeshNames.NO);
        CHECK.due("16 others are free", x.up(7, 7), 7);
    }

    private static void restoreLeavesImages() {
        MeshNames x = Meshes.named(10, 20);
        x.image(0);
        x.down(0);
        x.image(1);
        x.restore(0);
        CHECK.due("16 both are kept", x.count(7), 3);
        x.down(1);
        x.link(0, 1, 1);
        CHECK.due("16 the IMAGE stays", x.restore(0), 1);
        CHECK.due("16 as it was", x.count(6), 3);
        CHECK.due("16 as it was", x.count(1), 0);
        x.restore(1);
        CHECK.due("16 the other one", x.count(6), 2);
        CHECK.due("16 both are kept", x.count(7), 3);
    }

    private static void restoreRefuses() {
        MeshNames x = Meshes.named(10, 20);
        CHECK.due("16 restore(-1)", x.restore(-1), MeshNames.OUTSIDE);
        CHECK.due("16 restore(2)", x.restore(2), MeshNames.OUTSIDE);
        CHECK.due("16 restore(0)", x.restore(0), MeshNames.STATE);
        x.image(0);
        x.down(0);
        CHECK.due("16 restore(1)", x.restore(1), MeshNames.STATE);
        CHECK.due("16 what is refused changes nothing", x.count(6), 2);
    }

    private static void counts(String what, MeshNames x, int... want) {
        for (int i = 0; i < want.length; i++) {
            CHECK.due(what + ": count(" + i + ")", x.count(i), want[i]);
        }
    }

    private static void countTells() {
        MeshNames x = Meshes.line();
        counts("17 line", x, 6, 5, 5, 1, 6, 22, 63, 0);
        x.up(7, 1);
        counts("17 and one alone", x, 7, 5, 5, 2, 6, 22, 191, 0);
        x.link(6, 7, 1);
        x.image(1);
        counts("17 and a LINK that does not count", x, 7, 6, 5, 2, 6, 22, 191, 2);
        x.down(1);
        counts("17 fallen apart", x, 6, 6, 3, 3, 5, 4 + 2 * 2 + 3, 189, 2);
    }

    private static void countRefuses() {
        MeshNames x = Meshes.line();
        CHECK.due("17 count(-1)", x.count(-1), MeshNames.OUTSIDE);
        CHECK.due("17 count(8)", x.count(8), MeshNames.OUTSIDE);
        CHECK.due("17 count(MAX)", x.count(Integer.MAX_VALUE), MeshNames.OUTSIDE);
    }

    private static void imageOfNothing() {
        MeshNames x = new MeshNames();
        CHECK.due("15 nothing is kept, too", x.image(0), 1);
        CHECK.due("15 count(7)", x.count(7), 1);
        CHECK.due("15 and restored", x.restore(0), 1);
        CHECK.due("15 but not from the other", x.restore(1), MeshNames.STATE);
        CHECK.due("15 and the same again", x.image(0), 1);
    }

    private static void imageChangesNothingElse() {
        for (int k = 0; k < 2; k++) {
            MeshNames x = ringWithLinksThatDoNotCount();
            x.image(k);
            CHECK.holds("15 image(" + k + ") changes nothing else",
                Arrays.equals(Told.now(x), Told.now(ringWithLinksThatDoNotCount())));
        }
    }

    private static MeshNames ringWithLinksThatDoNotCount() {
        MeshNames x = Meshes.line();
        x.link(0, 5, 1);
        return Meshes.chain(x, 5, 6, 7, 0);
    }

    private static void restoreBringsAll() {
        for (int k = 0; k < 2; k++) {
            MeshNames twin = ringWithLinksThatDoNotCount();
            twin.image(k);
            MeshNames x = ringWithLinksThatDoNotCount();
            x.image(k);
            for (int node = 0; node < 8; node++) {
                x.down(node);
                x.up(node, 7 * node);
                for (int other = 0; other < node; other++) {
                    x.link(node, other, (node + other) % 2);
                }
            }
            x.restore(k);
            CHECK.holds("16 all is as it was: restore(" + k + ")", Arrays.equals(Told.all(x), Told.all(twin)));
        }
    }

    private static void restoreToNothing() {
        MeshNames x = new MeshNames();
        x.image(1);
        Meshes.chain(x, 0, 1, 2, 7);
        x.up(0, 0);
        x.up(7, 255);
        x.image(0);
        x.restore(1);
        counts("16 as it was made, but for IMAGES", x, 0, 0, 0, 0, 0, 0, 0, 3);
        CHECK.due("16 no NODE is UP", x.of(0, 0), MeshNames.STATE);
        CHECK.due("16 its NAME is free", x.up(1, 0), 1);
        x.restore(0);
        counts("16 and back", x, 2, 3, 0, 2, 0, 0, 129, 3);
        CHECK.due("16 LINKS of NODES that were down", x.up(1, 1), 3);
        CHECK.due("16 LINKS of NODES that were down", x.up(2, 2), 4);
        CHECK.due("16 LINKS of NODES that were down", x.of(0, 1), 135);
    }

    private static void restoreTwice() {
        MeshNames x = Meshes.line();
        x.image(0);
        x.down(5);
        CHECK.due("16 restore(0)", x.restore(0), 1);
        CHECK.due("16 and at once again", x.restore(0), 1);
        CHECK.due("16 as it was", x.count(6), 63);
        // what comes behind restore() is not put into the IMAGE
        x.down(0);
        x.link(1, 4, 0);
        x.restore(0);
        counts("16 as it was", x, 6, 5, 5, 1, 6, 22, 63, 1);
        CHECK.due("16 nor is what comes behind kept in the other", x.restore(1), MeshNames.STATE);
    }

    private static void countAtMost() {
        MeshNames x = Meshes.whole();
        x.image(0);
        x.image(1);
        counts("17 all LINKS", x, 8, 28, 28, 1, 8, 16, 255, 3);
        counts("17 the longest PATHS", Meshes.crossed(), 8, 7, 7, 1, 8, 40, 255, 0);
        counts("17 each alone", Meshes.named(1, 2, 3, 4, 5, 6, 7, 8), 8, 0, 0, 8, 0, 0, 255, 0);
        counts("17 7 alone", Meshes.named(-1, -1, -1, -1, -1, -1, -1, 9), 1, 0, 0, 1, 0, 0, 128, 0);
        counts("17 0 alone", Meshes.named(9), 1, 0, 0, 1, 0, 0, 1, 0);
    }

    private static void countWhichImages() {
        MeshNames first = new MeshNames();
        CHECK.due("17 none is kept", first.count(7), 0);
        first.image(0);
        CHECK.due("17 IMAGE 0", first.count(7), 1);
        first.image(0);
        CHECK.due("17 IMAGE 0, again", first.count(7), 1);
        MeshNames other = new MeshNames();
        other.image(1);
        CHECK.due("17 IMAGE 1", other.count(7), 2);
        other.image(0);
        CHECK.due("17 both", other.count(7), 3);
    }
}
