/** Promises 15 to 17: image, restore, count. */
final class ImagesTest {
    private static final Check CHECK = new Check();

    public static void main(String[] args) {
        imageKeeps();
        imageRefuses();
        restoreBrings();
        restoreLeavesImages();
        restoreRefuses();
        countTells();
        countRefuses();
        CHECK.end();
    }

    private static void imageKeeps() {
        MeshNames x = Meshes.line();
        CHECK.due("15 image(1)", x.image(1), 1);
        CHECK.due("15 count(7)", x.count(7), 2);
        CHECK.due("15 keeping changes nothing else", x.count(5), 22);
        CHECK.due("15 image(0)", x.image(0), 1);
        CHECK.due("15 count(7)", x.count(7), 3);
        x.down(5);
        CHECK.due("15 in place of what was kept", x.image(0), 1);
        x.down(4);
        x.restore(0);
        CHECK.due("15 the later one", x.count(6), 31);
        x.restore(1);
        CHECK.due("15 the other is not touched", x.count(6), 63);
    }

    private static void imageRefuses() {
        MeshNames x = Meshes.line();
        CHECK.due("15 image(-1)", x.image(-1), MeshNames.OUTSIDE);
        CHECK.due("15 image(2)", x.image(2), MeshNames.OUTSIDE);
        CHECK.due("15 image(MIN)", x.image(Integer.MIN_VALUE), MeshNames.OUTSIDE);
        CHECK.due("15 none is kept", x.count(7), 0);
    }

    private static void restoreBrings() {
        MeshNames x = Meshes.line();
        x.link(6, 7, 1);
        x.image(0);
        x.link(6, 7, 0);
        x.link(0, 5, 1);
        x.down(1);
        x.down(2);
        x.up(2, 7);
        x.up(7, 110);
        CHECK.due("16 restore(0)", x.restore(0), 1);
        CHECK.due("16 who is UP", x.count(6), 63);
        CHECK.due("16 LINKS", x.count(1), 6);
        CHECK.due("16 no LINK from 0 to 5", x.torn(0, 5), MeshNames.NO);
        CHECK.due("16 NAMES", x.of(2, 0), 120);
        CHECK.due("16 NAMES", x.of(1, 0), 110);
        CHECK.due("16 PATHS", x.path(5, -1), 6);
        CHECK.due("16 PATHS", x.path(2, 2), 1);
        CHECK.due("16 none is changed", x.changed(0), 0);
        CHECK.due("16 its NAMES are taken", x.up(7, 110), MeshNames.NO);
        CHECK.due("16 others are free", x.up(7, 7), 7);
    }

    private static void restoreLeavesImages() {
        MeshNames x = Meshes.named(10, 20);
        x.image(0);
        x.down(0);
        x.image(1);
        x.restore(0);
        CHECK.due("16 both are kept", x.count(7), 3);
        x.down(1);
        x.link(0, 1, 1);
        CHECK.due("16 the IMAGE stays", x.restore(0), 1);
        CHECK.due("16 as it was", x.count(6), 3);
        CHECK.due("16 as it was", x.count(1), 0);
        x.restore(1);
        CHECK.due("16 the other one", x.count(6), 2);
        CHECK.due("16 both are kept", x.count(7), 3);
    }

    private static void restoreRefuses() {
        MeshNames x = Meshes.named(10, 20);
        CHECK.due("16 restore(-1)", x.restore(-1), MeshNames.OUTSIDE);
        CHECK.due("16 restore(2)", x.restore(2), MeshNames.OUTSIDE);
        CHECK.due("16 restore(0)", x.restore(0), MeshNames.STATE);
        x.image(0);
        x.down(0);
        CHECK.due("16 restore(1)", x.restore(1), MeshNames.STATE);
        CHECK.due("16 what is refused changes nothing", x.count(6), 2);
    }

    private static void counts(String what, MeshNames x, int... want) {
        for (int i = 0; i < want.length; i++) {
            CHECK.due(what + ": count(" + i + ")", x.count(i), want[i]);
        }
    }

    private static void countTells() {
        MeshNames x = Meshes.line();
        counts("17 line", x, 6, 5, 5, 1, 6, 22, 63, 0);
        x.up(7, 1);
        counts("17 and one alone", x, 7, 5, 5, 2, 6, 22, 191, 0);
        x.link(6, 7, 1);
        x.image(1);
        counts("17 and a LINK that does not count", x, 7, 6, 5, 2, 6, 22, 191, 2);
        x.down(1);
        counts("17 fallen apart", x, 6, 6, 3, 3, 5, 4 + 2 * 2 + 3, 189, 2);
    }

    private static void countRefuses() {
        MeshNames x = Meshes.line();
        CHECK.due("17 count(-1)", x.count(-1), MeshNames.OUTSIDE);
        CHECK.due("17 count(8)", x.count(8), MeshNames.OUTSIDE);
        CHECK.due("17 count(MAX)", x.count(Integer.MAX_VALUE), MeshNames.OUTSIDE);
    }
}
