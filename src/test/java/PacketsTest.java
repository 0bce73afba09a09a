/** Promises 8 to 11: owner, route, spare, worst. */
final class PacketsTest {
    private static final Check CHECK = new Check();

    public static void main(String[] args) {
        ownerIsNearest();
        ownerIsOfThePart();
        ownerRefuses();
        routeGoesToTheNearestKnown();
        routeTakesThePathOfTheLesserNode();
        routeBetweenTwoAlike();
        routeAlone();
        routeRefuses();
        spareTells();
        spareRefuses();
        worstOfNothing();
        worstTells();
        worstOfSeveralIsTheLeast();
        worstRefuses();
        ownerHalfTheRingAway();
        ownerAlone();
        routeTakesThePathOfTheLesserNodeOnItsWay();
        routeLongest();
        routeForTheOutermostNames();
        routeEndsAtTheOwner();
        spareGreatest();
        worstOfAllLinks();
        worstOnOneRoute();
        worstOfTheOutermostNodes();
        CHECK.end();
    }

    private static void row(String what, MeshNames x, int node, int name, int... want) {
        String call = what + ": route(" + node + ", " + name + ", ";
        CHECK.due(call + "-1)", x.route(node, name, -1), want.length - 1);
        for (int i = 0; i < want.length; i++) {
            CHECK.due(call + i + ")", x.route(node, name, i), want[i]);
        }
        CHECK.due(call + "behind its last)", x.route(node, name, want.length), MeshNames.NONE);
        CHECK.due(call + "MAX)", x.route(node, name, Integer.MAX_VALUE), MeshNames.NONE);
    }

    private static MeshNames ringOfSix() {
        MeshNames x = Meshes.line();
        x.link(0, 5, 1);
        return x;
    }

    private static void ownerIsNearest() {
        MeshNames x = Meshes.chain(Meshes.named(250, 10, 100), 0, 1, 2);
        CHECK.due("8 its own NAME", x.owner(0, 100), 2);
        CHECK.due("8 nearest", x.owner(0, 56), 2);
        CHECK.due("8 of two the lesser NAME", x.owner(0, 55), 1);
        CHECK.due("8 across 0, of two the lesser NAME", x.owner(2, 2), 1);
        CHECK.due("8 across 0, above", x.owner(2, 1), 0);
        CHECK.due("8 0", x.owner(2, 0), 0);
        CHECK.due("8 255", x.owner(2, 255), 0);
        CHECK.due("8 far, of two the lesser NAME", x.owner(1, 175), 2);
        CHECK.due("8 far", x.owner(1, 176), 0);
        MeshNames two = Meshes.chain(Meshes.named(128, 0), 0, 1);
        CHECK.due("8 half way", two.owner(0, 64), 1);
        CHECK.due("8 half way, on the other side", two.owner(0, 192), 1);
        CHECK.due("8 less than half", two.owner(1, 191), 0);
    }

    private static void ownerIsOfThePart() {
        MeshNames x = Meshes.chain(Meshes.named(10, 60, 50, 200), 0, 1);
        Meshes.chain(x, 2, 3);
        CHECK.due("8 the PART of 0", x.owner(0, 50), 1);
        CHECK.due("8 the PART of 3", x.owner(3, 60), 2);
        x.link(1, 2, 1);
        CHECK.due("8 one PART", x.owner(0, 50), 2);
        x.down(1);
        CHECK.due("8 alone", x.owner(0, 60), 0);
    }

    private static void ownerRefuses() {
        MeshNames x = Meshes.named(10);
        CHECK.due("8 owner(8, 256)", x.owner(8, 256), MeshNames.UNKNOWN);
        CHECK.due("8 owner(-1, 0)", x.owner(-1, 0), MeshNames.UNKNOWN);
        CHECK.due("8 owner(1, 256): OUTSIDE goes ahead of STATE", x.owner(1, 256), MeshNames.OUTSIDE);
        CHECK.due("8 owner(0, -1)", x.owner(0, -1), MeshNames.OUTSIDE);
        CHECK.due("8 owner(1, 255)", x.owner(1, 255), MeshNames.STATE);
    }

    private static void routeGoesToTheNearestKnown() {
        MeshNames line = Meshes.line();
        row("9 line", line, 0, 150, 0, 3, 1, 4, 2, 5);
        row("9 line, back", line, 5, 100, 5, 2, 4, 1, 3, 0);
        row("9 stays", line, 4, 140, 4);
        row("9 stays with the OWNER of a NAME that none has", line, 4, 142, 4);
        MeshNames ring = ringOfSix();
        // 0 knows 110 and 150 alone: 120 is looked for by way of 110, not of 5
        row("9 the long way", ring, 0, 120, 0, 3, 1, 4, 2);
        // 110 and 150 are AWAY by 20 both: the lesser; and 3 is on the way
        row("9 of two the lesser NAME", ring, 0, 130, 0, 3);
        row("9 across 0", ring, 0, 220, 0, 5);
        row("9 of two across 0 the lesser NAME", ring, 5, 253, 5, 0);
        row("9 above it", ring, 5, 252, 5);
    }

    private static void routeTakesThePathOfTheLesserNode() {
        // from 0 to 5 by 1-4 (as 6 lays it) or by 3-2, backwards (as 5 lays it): 5 is less than 6
        MeshNames x = Meshes.named(30, 100, 110, 120, 130, 20, 10);
        Meshes.chain(x, 6, 0, 1, 4, 5);
        Meshes.chain(x, 0, 2, 3, 5);
        CHECK.due("9 as 6 lays it", x.path(6, 2), 1);
        CHECK.due("9 as 5 lays it", x.path(5, 2), 2);
        row("9 laid from 5, not 6", x, 0, 20, 0, 2, 3, 5);
        // the same with the PATH that ends there laid from the lesser one
        MeshNames y = Meshes.named(30, 10, 100, 110, 120, 130, 20);
        Meshes.chain(y, 1, 0, 2, 5, 6);
        Meshes.chain(y, 0, 3, 4, 6);
        CHECK.due("9 as 1 lays it", y.path(1, 2), 2);
        CHECK.due("9 as 6 lays it", y.path(6, 2), 3);
        row("9 laid from 1, not 6", y, 0, 20, 0, 2, 5, 6);
    }

    private static void routeBetweenTwoAlike() {
        MeshNames x = Meshes.chain(Meshes.named(20, 10), 0, 1);
        row("9 from the greater to the lesser", x, 0, 15, 0, 1);
        row("9 from the lesser nowhere", x, 1, 15, 1);
    }

    private static void routeAlone() {
        MeshNames x = Meshes.named(20, 30);
        row("9 alone", x, 0, 30, 0);
        x.link(0, 1, 1);
        row("9 not alone", x, 0, 30, 0, 1);
        x.link(0, 1, 0);
        row("9 alone again", x, 0, 30, 0);
    }

    private static void routeRefuses() {
        MeshNames x = Meshes.named(20);
        CHECK.due("9 route(8, 256, -2)", x.route(8, 256, -2), MeshNames.UNKNOWN);
        CHECK.due("9 route(-1, 0, 0)", x.route(-1, 0, 0), MeshNames.UNKNOWN);
        CHECK.due("9 route(0, 256, 0)", x.route(0, 256, 0), MeshNames.OUTSIDE);
        CHECK.due("9 route(0, -1, 0)", x.route(0, -1, 0), MeshNames.OUTSIDE);
        CHECK.due("9 route(0, 0, -2)", x.route(0, 0, -2), MeshNames.OUTSIDE);
        CHECK.due("9 route(1, 0, -2): OUTSIDE goes ahead of STATE", x.route(1, 0, -2), MeshNames.OUTSIDE);
        CHECK.due("9 route(1, 256, 0): OUTSIDE goes ahead of STATE", x.route(1, 256, 0), MeshNames.OUTSIDE);
        CHECK.due("9 route(1, 0, 0)", x.route(1, 0, 0), MeshNames.STATE);
        CHECK.due("9 route(1, 0, 99): STATE goes ahead of NONE", x.route(1, 0, 99), MeshNames.STATE);
    }

    private static void spareTells() {
        MeshNames ring = ringOfSix();
        CHECK.due("10 four steps where two are enough", ring.spare(0, 120), 2);
        CHECK.due("10 a NAME that none has", ring.spare(0, 119), 2);
        CHECK.due("10 no step more than need be", ring.spare(0, 130), 0);
        CHECK.due("10 stays", ring.spare(0, 100), 0);
        CHECK.due("10 a line", Meshes.line().spare(0, 120), 0);
    }

    private static void spareRefuses() {
        MeshNames x = Meshes.named(20);
        CHECK.due("10 spare(8, 256)", x.spare(8, 256), MeshNames.UNKNOWN);
        CHECK.due("10 spare(-1, 0)", x.spare(-1, 0), MeshNames.UNKNOWN);
        CHECK.due("10 spare(1, 256): OUTSIDE goes ahead of STATE", x.spare(1, 256), MeshNames.OUTSIDE);
        CHECK.due("10 spare(0, -1)", x.spare(0, -1), MeshNames.OUTSIDE);
        CHECK.due("10 spare(1, 0)", x.spare(1, 0), MeshNames.STATE);
    }

    private static void worst(String what, MeshNames x, int greatest, int all, int longest, int node) {
        CHECK.due(what + ": worst(0)", x.worst(0), greatest);
        CHECK.due(what + ": worst(1)", x.worst(1), all);
        CHECK.due(what + ": worst(2)", x.worst(2), longest);
        CHECK.due(what + ": worst(3)", x.worst(3), node);
    }

    private static void worstOfNothing() {
        worst("11 none UP", new MeshNames(), 0, 0, 0, MeshNames.NONE);
        worst("11 each alone", Meshes.named(1, 2, 3), 0, 0, 0, MeshNames.NONE);
        worst("11 two", Meshes.chain(Meshes.named(1, 2), 0, 1), 0, 0, 1, MeshNames.NONE);
        worst("11 three, all linked", Meshes.chain(Meshes.named(1, 2, 3), 0, 1, 2, 0), 0, 0, 1, MeshNames.NONE);
    }

    private static void worstTells() {
        worst("11 line", Meshes.line(), 0, 0, 5, 1);
        // 5 to 120 goes by 0, 3, 1, 4, where one step is enough; 1 and 4 are on ten ROUTES each
        worst("11 ring", ringOfSix(), 4, 12, 5, 1);
        MeshNames ring = ringOfSix();
        worst("11 ahead of a change", ring, 4, 12, 5, 1);
        ring.down(1);
        ring.down(2);
        ring.down(3);
        worst("11 what was before is forgotten", ring, 0, 0, 1, MeshNames.NONE);
        worst("11 on two ROUTES alone", Meshes.chain(Meshes.named(1, 2, 3), 1, 0, 2), 0, 0, 2, 0);
        MeshNames star = Meshes.chain(Meshes.named(1, 2, 3, 4, 5), 0, 3, 1);
        Meshes.chain(star, 2, 3, 4);
        worst("11 star", star, 0, 0, 2, 3);
        // a second PART adds its own ROUTES
        star.up(5, 50);
        star.up(6, 60);
        star.up(7, 70);
        Meshes.chain(star, 5, 6, 7);
        worst("11 two PARTS", star, 0, 0, 2, 3);
        star.down(3);
        worst("11 the second PART alone", star, 0, 0, 2, 6);
    }

    private static void worstOfSeveralIsTheLeast() {
        MeshNames x = Meshes.chain(Meshes.named(1, 2, 3, 4), 0, 2, 1, 3);
        worst("11 1 and 2 are on four ROUTES each", x, 0, 0, 3, 1);
    }

    private static void worstRefuses() {
        MeshNames x = Meshes.named(20);
        CHECK.due("11 worst(-1)", x.worst(-1), MeshNames.OUTSIDE);
        CHECK.due("11 worst(4)", x.worst(4), MeshNames.OUTSIDE);
    }

    private static void ownerHalfTheRingAway() {
        MeshNames x = Meshes.chain(Meshes.named(0, 255), 0, 1);
        CHECK.due("8 AWAY by 127 and 128", x.owner(1, 127), 0);
        CHECK.due("8 AWAY by 128 and 127", x.owner(0, 128), 1);
        MeshNames y = Meshes.chain(Meshes.named(-1, 2, 254), 1, 2);
        CHECK.due("8 AWAY by 2 both, across 0: the lesser NAME", y.owner(2, 0), 1);
        CHECK.due("8 AWAY by 3 and 1", y.owner(1, 255), 2);
        CHECK.due("8 AWAY by 126 both: the lesser NAME", y.owner(2, 128), 1);
        CHECK.due("8 AWAY by 127 and 125", y.owner(1, 129), 2);
        // the lesser NAME is that of the greater NODE
        MeshNames z = Meshes.chain(Meshes.named(254, 2), 0, 1);
        CHECK.due("8 the lesser NAME, not NODE", z.owner(0, 0), 1);
        CHECK.due("8 the lesser NAME, not NODE", z.owner(0, 128), 1);
    }

    private static void ownerAlone() {
        MeshNames x = Meshes.named(-1, -1, -1, -1, -1, -1, -1, 100);
        for (int name : new int[] {0, 99, 100, 101, 227, 228, 229, 255}) {
            CHECK.due("8 alone: owner(7, " + name + ")", x.owner(7, name), 7);
            row("9 alone", x, 7, name, 7);
            CHECK.due("10 alone: spare(7, " + name + ")", x.spare(7, name), 0);
        }
    }

    private static void routeTakesThePathOfTheLesserNodeOnItsWay() {
        // 5 is in the middle of both: 0 lays 0-1-4-5-6, 7 lays 7-5-3-2-0
        MeshNames x = Meshes.named(20, 100, 120, 130, 110, 140, 30, 10);
        Meshes.chain(x, 0, 1, 4, 5, 6);
        Meshes.chain(x, 0, 2, 3, 5, 7);
        CHECK.due("9 as 0 lays it", x.path(0, 2), 4);
        CHECK.due("9 as 7 lays it", x.path(7, 2), 3);
        row("9 laid from 0, not 7", x, 5, 20, 5, 4, 1, 0);
        // the same with 0 and 7 in each other's place: 7 lays 7-1-4-5-6, 0 lays 0-5-3-2-7
        MeshNames y = Meshes.named(10, 100, 120, 130, 110, 140, 30, 20);
        Meshes.chain(y, 7, 1, 4, 5, 6);
        Meshes.chain(y, 7, 2, 3, 5, 0);
        CHECK.due("9 as 7 lays it", y.path(7, 2), 4);
        CHECK.due("9 as 0 lays it", y.path(0, 2), 3);
        row("9 laid from 0, not 7", y, 5, 20, 5, 3, 2, 7);
    }

    private static void routeLongest() {
        MeshNames x = Meshes.crossed();
        row("9 seven steps", x, 0, 7, 0, 1, 2, 3, 4, 5, 6, 7);
        row("9 seven steps back", x, 7, 0, 7, 6, 5, 4, 3, 2, 1, 0);
        row("9 the first NODE stays", x, 0, 0, 0);
        row("9 the last NODE stays", x, 7, 7, 7);
    }

    private static void routeForTheOutermostNames() {
        MeshNames x = Meshes.chain(Meshes.named(250, 4), 0, 1);
        row("9 AWAY by 4 and 6", x, 0, 0, 0, 1);
        row("9 AWAY by 5 both: the lesser NAME", x, 0, 255, 0, 1);
        row("9 AWAY by 5 both: stays with the lesser NAME", x, 1, 255, 1);
        row("9 AWAY by 4 and 6, on the other side", x, 1, 254, 1, 0);
        MeshNames y = Meshes.chain(Meshes.named(0, 255), 0, 1);
        row("9 AWAY by 128 and 127", y, 0, 128, 0, 1);
        row("9 AWAY by 127 and 128", y, 1, 127, 1, 0);
        row("9 0 itself", y, 1, 0, 1, 0);
        row("9 255 itself", y, 0, 255, 0, 1);
    }

    private static void routeEndsAtTheOwner() {
        MeshNames[] meshes = {Meshes.line(), ringOfSix(), Meshes.crossed(), Meshes.whole()};
        for (MeshNames x : meshes) {
            for (int name = 0; name < 256; name += 5) {
                int steps = x.route(2, name, -1);
                CHECK.due("9 its last NODE, for " + name, x.route(2, name, steps), x.owner(2, name));
            }
        }
    }

    private static void spareGreatest() {
        // 5 knows 0 and 20 alone, 20 leads on to 30: all the way around to the NODE beside it
        MeshNames x = Meshes.named(20, 50, 0, 40, 30, 10, 60, 70);
        Meshes.chain(x, 0, 1, 2, 3, 4, 5, 6, 7, 0);
        row("9 all the way around", x, 5, 30, 5, 6, 7, 0, 1, 2, 3, 4);
        CHECK.due("10 seven steps where one is enough", x.spare(5, 30), 6);
        CHECK.due("10 none is spared on the way back", x.spare(4, 10), 0);
        CHECK.due("11 the greatest SPARE", x.worst(0), 6);
        CHECK.due("11 the longest", x.worst(2), 7);
        x.link(4, 5, 0);
        CHECK.due("10 seven steps, and all are needed", x.spare(5, 30), 0);
    }

    private static void worstOfAllLinks() {
        MeshNames x = Meshes.whole();
        // 0 knows 32 and 224 alone, AWAY from 128 by 96 both; 1 knows 0 and 64, AWAY from 160 by 96 both
        row("9 AWAY alike", x, 0, 128, 0, 1, 2, 3, 4);
        row("9 AWAY alike, across 0", x, 1, 160, 1, 0, 7, 6, 5);
        // from each NODE, along the ring: twice none, twice 1, twice 2, once 3
        worst("11 all LINKS", x, 3, 8 * 9, 4, 1);
    }

    private static void worstOnOneRoute() {
        // 0 to 2 by 1, 2 to 0 by 3, 1 to 3 by 0, 3 to 1 by 2: each is on one
        MeshNames x = Meshes.chain(Meshes.named(0, 100, 120, 240), 0, 1, 2, 3, 0, 2);
        x.link(1, 3, 1);
        worst("11 each on one ROUTE alone", x, 1, 4, 2, 0);
    }

    private static void worstOfTheOutermostNodes() {
        MeshNames last = Meshes.named(10, 20, 30, 40, 50, 60, 70, 80);
        MeshNames first = Meshes.named(10, 20, 30, 40, 50, 60, 70, 80);
        for (int node = 0; node < 7; node++) {
            last.link(7, node, 1);
            first.link(0, node + 1, 1);
        }
        worst("11 7 is on all", last, 0, 0, 2, 7);
        worst("11 0 is on all", first, 0, 0, 2, 0);
        last.down(7);
        worst("11 each alone", last, 0, 0, 0, MeshNames.NONE);
    }
}
