/** Promises 1 to 4: a new object, up, down, link. */
final class NodesTest {
    private static final Check CHECK = new Check();

    public static void main(String[] args) {
        newObject();
        upAnswersHowMany();
        upRefuses();
        downAnswersTheName();
        downRefuses();
        linkAnswersHowMany();
        linkRefuses();
        upWhenAllAre();
        downToNone();
        linkOfNodesUpOrNot();
        linkDownToNone();
        CHECK.end();
    }

    private static void newObject() {
        MeshNames x = new MeshNames();
        for (int what = 0; what <= 7; what++) {
            CHECK.due("1 count(" + what + ")", x.count(what), 0);
        }
        for (int node = 0; node < 8; node++) {
            CHECK.due("1 of(" + node + ", 0)", x.of(node, 0), MeshNames.STATE);
        }
        CHECK.due("1 bridges()", x.bridges(), 0);
        for (int k = 0; k < 2; k++) {
            CHECK.due("1 restore(" + k + ")", x.restore(k), MeshNames.STATE);
            CHECK.due("1 changed(" + k + ")", x.changed(k), MeshNames.STATE);
        }
        MeshNames other = new MeshNames();
        x.up(3, 7);
        x.link(1, 2, 1);
        x.image(1);
        CHECK.due("1 another object, count(6)", other.count(6), 0);
        CHECK.due("1 another object, count(1)", other.count(1), 0);
        CHECK.due("1 another object, count(7)", other.count(7), 0);
    }

    private static void upAnswersHowMany() {
        MeshNames x = new MeshNames();
        for (int node = 0; node < 8; node++) {
            CHECK.due("2 up", x.up(node, node == 0 ? 255 : node - 1), node + 1);
        }
        CHECK.due("2 of(0, 0)", x.of(0, 0), 255);
        CHECK.due("2 of(1, 0)", x.of(1, 0), 0);
        CHECK.due("2 count(6)", x.count(6), 255);
    }

    private static void upRefuses() {
        MeshNames x = Meshes.named(9);
        CHECK.due("2 up(-1, 300)", x.up(-1, 300), MeshNames.UNKNOWN);
        CHECK.due("2 up(8, 5)", x.up(8, 5), MeshNames.UNKNOWN);
        CHECK.due("2 up(MIN, 5)", x.up(Integer.MIN_VALUE, 5), MeshNames.UNKNOWN);
        CHECK.due("2 up(MAX, 5)", x.up(Integer.MAX_VALUE, 5), MeshNames.UNKNOWN);
        CHECK.due("2 up(0, 256): the NAME goes ahead of STATE", x.up(0, 256), MeshNames.OUTSIDE);
        CHECK.due("2 up(1, -1)", x.up(1, -1), MeshNames.OUTSIDE);
        CHECK.due("2 up(0, 9): STATE goes ahead of NO", x.up(0, 9), MeshNames.STATE);
        CHECK.due("2 up(0, 10)", x.up(0, 10), MeshNames.STATE);
        CHECK.due("2 up(1, 9)", x.up(1, 9), MeshNames.NO);
        CHECK.due("2 what is refused changes nothing: count(6)", x.count(6), 1);
        CHECK.due("2 what is refused changes nothing: of(0, 0)", x.of(0, 0), 9);
        x.down(0);
        CHECK.due("2 a NAME is free when its NODE is down", x.up(1, 9), 1);
        CHECK.due("2 and taken again", x.up(0, 9), MeshNames.NO);
        CHECK.due("2 a node comes up with another NAME", x.up(0, 10), 2);
        CHECK.due("2 of(0, 0)", x.of(0, 0), 10);
    }

    private static void downAnswersTheName() {
        MeshNames x = Meshes.chain(Meshes.named(10, 20, 30), 0, 1, 2);
        CHECK.due("3 down(1)", x.down(1), 20);
        CHECK.due("3 count(6)", x.count(6), 5);
        CHECK.due("3 LINKS stay", x.count(1), 2);
        CHECK.due("3 but do not count", x.count(2), 0);
        CHECK.due("3 parts", x.count(3), 2);
        CHECK.due("3 paths", x.count(4), 0);
        x.up(1, 0);
        CHECK.due("3 up again: LINKS count", x.count(2), 2);
        CHECK.due("3 down(1) with NAME 0", x.down(1), 0);
    }

    private static void downRefuses() {
        MeshNames x = Meshes.named(10);
        CHECK.due("3 down(-1)", x.down(-1), MeshNames.UNKNOWN);
        CHECK.due("3 down(8)", x.down(8), MeshNames.UNKNOWN);
        CHECK.due("3 down(1)", x.down(1), MeshNames.STATE);
        CHECK.due("3 down(0)", x.down(0), 10);
        CHECK.due("3 down(0) again", x.down(0), MeshNames.STATE);
    }

    private static void linkAnswersHowMany() {
        MeshNames x = new MeshNames();
        CHECK.due("4 link of NODES that are down", x.link(6, 7, 1), 1);
        CHECK.due("4 the same again", x.link(6, 7, 1), 1);
        CHECK.due("4 the same the other way", x.link(7, 6, 1), 1);
        CHECK.due("4 another", x.link(0, 7, 1), 2);
        CHECK.due("4 none where none was", x.link(1, 2, 0), 2);
        CHECK.due("4 none, told the other way", x.link(7, 6, 0), 1);
        CHECK.due("4 none again", x.link(6, 7, 0), 1);
        int lie = 1;
        for (int one = 0; one < 8; one++) {
            for (int other = one + 1; other < 8; other++) {
                lie += one == 0 && other == 7 ? 0 : 1;
                CHECK.due("4 link(" + one + ", " + other + ", 1)", x.link(one, other, 1), lie);
            }
        }
        CHECK.due("4 all LINKS", x.count(1), 28);
        CHECK.due("4 none counts", x.count(2), 0);
        x.up(2, 1);
        x.up(5, 2);
        CHECK.due("4 one counts", x.count(2), 1);
    }

    private static void linkRefuses() {
        MeshNames x = Meshes.chain(Meshes.named(1, 2), 0, 1);
        CHECK.due("4 link(-1, 0, 2)", x.link(-1, 0, 2), MeshNames.UNKNOWN);
        CHECK.due("4 link(0, 8, 1)", x.link(0, 8, 1), MeshNames.UNKNOWN);
        CHECK.due("4 link(8, 0, 1)", x.link(8, 0, 1), MeshNames.UNKNOWN);
        CHECK.due("4 link(8, 8, 1)", x.link(8, 8, 1), MeshNames.UNKNOWN);
        CHECK.due("4 link(0, 1, 2)", x.link(0, 1, 2), MeshNames.OUTSIDE);
        CHECK.due("4 link(0, 1, -1)", x.link(0, 1, -1), MeshNames.OUTSIDE);
        CHECK.due("4 link(3, 3, 1)", x.link(3, 3, 1), MeshNames.OUTSIDE);
        CHECK.due("4 link(3, 3, 0)", x.link(3, 3, 0), MeshNames.OUTSIDE);
        CHECK.due("4 what is refused changes nothing", x.count(1), 1);
    }

    private static void upWhenAllAre() {
        MeshNames x = Meshes.whole();
        for (int node = 0; node < 8; node++) {
            CHECK.due("2 all are UP: up(" + node + ", 1)", x.up(node, 1), MeshNames.STATE);
        }
        CHECK.due("2 there is no ninth", x.up(8, 1), MeshNames.UNKNOWN);
        CHECK.due("2 all are UP", x.count(0), 8);
        x.down(7);
        CHECK.due("2 the eighth again, with the least NAME that is free", x.up(7, 1), 8);
        x.down(7);
        CHECK.due("2 and with the greatest", x.up(7, 255), 8);
        CHECK.due("2 of(7, 0)", x.of(7, 0), 255);
    }

    private static void downToNone() {
        MeshNames x = Meshes.whole();
        for (int node = 0; node < 8; node++) {
            CHECK.due("3 down(" + node + ")", x.down(node), 32 * node);
            CHECK.due("3 fewer are UP", x.count(0), 7 - node);
        }
        int[] counts = {0, 28, 0, 0, 0, 0, 0, 0};
        for (int what = 0; what < 8; what++) {
            CHECK.due("3 none is UP, LINKS stay: count(" + what + ")", x.count(what), counts[what]);
        }
        CHECK.due("3 none is UP: bridges", x.bridges(), 0);
        CHECK.due("3 none is UP: worst", x.worst(3), MeshNames.NONE);
        x.up(0, 255);
        CHECK.due("3 the greatest NAME", x.down(0), 255);
    }

    private static void linkOfNodesUpOrNot() {
        MeshNames x = Meshes.named(-1, -1, -1, -1, -1, -1, 60, 70);
        CHECK.due("4 both are UP", x.link(7, 6, 1), 1);
        CHECK.due("4 the first is UP", x.link(7, 0, 1), 2);
        CHECK.due("4 the other is UP", x.link(1, 7, 1), 3);
        CHECK.due("4 neither is UP", x.link(0, 1, 1), 4);
        CHECK.due("4 one of them counts", x.count(2), 1);
        x.up(0, 0);
        CHECK.due("4 two count", x.count(2), 2);
        x.up(1, 1);
        CHECK.due("4 all count", x.count(2), 4);
        x.down(7);
        CHECK.due("4 one counts while both its NODES are UP", x.count(2), 1);
        CHECK.due("4 one that does not count is taken away", x.link(6, 7, 0), 3);
        x.up(7, 70);
        CHECK.due("4 and does not come back", x.count(2), 3);
    }

    private static void linkDownToNone() {
        MeshNames x = Meshes.whole();
        int lie = 28;
        for (int one = 7; one >= 0; one--) {
            for (int other = 0; other < one; other++) {
                lie--;
                CHECK.due("4 link(" + one + ", " + other + ", 0)", x.link(one, other, 0), lie);
            }
        }
        CHECK.due("4 no LINKS", x.count(1), 0);
        CHECK.due("4 each NODE is a PART", x.count(3), 8);
        CHECK.due("4 no PATHS", x.count(4), 0);
        CHECK.due("4 none where none are", x.link(0, 7, 0), 0);
    }
}
