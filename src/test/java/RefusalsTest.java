import java.util.Arrays;
import java.util.function.Consumer;
import java.util.function.ToIntFunction;

/**
 * Promises 2 to 17: each refusal of each call, at the edges of what it takes and far from them;
 * of several that fit the first in the order of the document; and that what is refused changes
 * nothing, nor does what only asks.
 */
final class RefusalsTest {
    private static final Check CHECK = new Check();
    private static final int[] NO_NODES = outside(0, 7);
    private static final int[] NO_NAMES = outside(0, 255);
    private static final int[] NO_IMAGES = outside(0, 1);
    private static final int[] NO_PLACES = {-2, -3, -32, Integer.MIN_VALUE + 1, Integer.MIN_VALUE};
    private static final int[] AS_IT_WAS = Told.all(mesh());

    public static void main(String[] args) {
        up();
        down();
        link();
        of();
        path();
        over();
        owner();
        route();
        spare();
        torn();
        worstAndCount();
        images();
        questions();
        toldSeesChanges();
        CHECK.end();
    }

    /** 0 - 1 - 2 and 3 - 7 are PARTS, 4 is one alone, 5 and 6 are down; IMAGE 1 is kept, IMAGE 0 is not. */
    private static MeshNames mesh() {
        MeshNames x = Meshes.chain(Meshes.named(10, 20, -1, 80, 40, -1, -1, 70), 0, 1, 2);
        x.image(1);
        x.up(2, 30);
        Meshes.chain(x, 3, 7);
        return Meshes.chain(x, 4, 5, 6);
    }

    /** Numbers outside, those among them that a shift or a narrow type would take for one inside. */
    private static int[] outside(int least, int most) {
        int[] tried = {
            least - 1, most + 1, least - 2, most + 2, -32, -31, -8, 31, 32, 33, 39, 64, -256, 256, 257,
            512, 65536, 65537, 1 << 30, Integer.MAX_VALUE - 1, Integer.MAX_VALUE,
            Integer.MIN_VALUE, Integer.MIN_VALUE + 1, Integer.MIN_VALUE + 7
        };
        return Arrays.stream(tried).filter(n -> n < least || n > most).distinct().toArray();
    }

    private static void refused(String call, int due, ToIntFunction<MeshNames> on) {
        MeshNames x = mesh();
        CHECK.due(call, on.applyAsInt(x), due);
        CHECK.holds(call + " changes nothing", Arrays.equals(Told.all(x), AS_IT_WAS));
    }

    private static void up() {
        for (int node : NO_NODES) {
            refused("2 up(" + node + ", 5)", MeshNames.UNKNOWN, x -> x.up(node, 5));
            refused("2 up(" + node + ", 256), OUTSIDE too", MeshNames.UNKNOWN, x -> x.up(node, 256));
            refused("2 up(" + node + ", 10), NO too", MeshNames.UNKNOWN, x -> x.up(node, 10));
        }
        for (int name : NO_NAMES) {
            refused("2 up(5, " + name + ")", MeshNames.OUTSIDE, x -> x.up(5, name));
            refused("2 up(0, " + name + "), STATE too", MeshNames.OUTSIDE, x -> x.up(0, name));
        }
        refused("2 up(0, 99)", MeshNames.STATE, x -> x.up(0, 99));
        refused("2 up(7, 0)", MeshNames.STATE, x -> x.up(7, 0));
        refused("2 up(0, 10), its own NAME", MeshNames.STATE, x -> x.up(0, 10));
        refused("2 up(0, 20), NO too", MeshNames.STATE, x -> x.up(0, 20));
        for (int name : new int[] {10, 20, 30, 80, 40, 70}) {
            refused("2 up(5, " + name + ")", MeshNames.NO, x -> x.up(5, name));
        }
    }

    private static void down() {
        for (int node : NO_NODES) {
            refused("3 down(" + node + ")", MeshNames.UNKNOWN, x -> x.down(node));
        }
        refused("3 down(5)", MeshNames.STATE, x -> x.down(5));
        refused("3 down(6)", MeshNames.STATE, x -> x.down(6));
    }

    private static void link() {
        for (int node : NO_NODES) {
            for (int is = 0; is <= 1; is++) {
                int lies = is;
                refused("4 link(" + node + ", 0, " + is + ")", MeshNames.UNKNOWN, x -> x.link(node, 0, lies));
                refused("4 link(0, " + node + ", " + is + ")", MeshNames.UNKNOWN, x -> x.link(0, node, lies));
            }
            refused("4 link(" + node + ", 1, 2), OUTSIDE too", MeshNames.UNKNOWN, x -> x.link(node, 1, 2));
            refused("4 link(1, " + node + ", -1), OUTSIDE too", MeshNames.UNKNOWN, x -> x.link(1, node, -1));
            refused("4 link, both " + node, MeshNames.UNKNOWN, x -> x.link(node, node, 1));
        }
        for (int is : NO_IMAGES) {
            refused("4 link(0, 1, " + is + ")", MeshNames.OUTSIDE, x -> x.link(0, 1, is));
            refused("4 link(6, 7, " + is + ")", MeshNames.OUTSIDE, x -> x.link(6, 7, is));
            refused("4 link(3, 3, " + is + ")", MeshNames.OUTSIDE, x -> x.link(3, 3, is));
        }
        for (int node = 0; node < 8; node++) {
            int both = node;
            refused("4 link to itself, " + node, MeshNames.OUTSIDE, x -> x.link(both, both, 1));
            refused("4 no link to itself, " + node, MeshNames.OUTSIDE, x -> x.link(both, both, 0));
        }
    }

    private static void of() {
        for (int node : NO_NODES) {
            refused("5 of(" + node + ", 0)", MeshNames.UNKNOWN, x -> x.of(node, 0));
            refused("5 of(" + node + ", 7), OUTSIDE too", MeshNames.UNKNOWN, x -> x.of(node, 7));
        }
        for (int what : outside(0, 6)) {
            refused("5 of(0, " + what + ")", MeshNames.OUTSIDE, x -> x.of(0, what));
            refused("5 of(5, " + what + "), STATE too", MeshNames.OUTSIDE, x -> x.of(5, what));
        }
        for (int what = 0; what <= 6; what++) {
            int asked = what;
            refused("5 of(5, " + what + ")", MeshNames.STATE, x -> x.of(5, asked));
        }
    }

    private static void path() {
        for (int node : NO_NODES) {
            refused("6 path(" + node + ", 0)", MeshNames.UNKNOWN, x -> x.path(node, 0));
            refused("6 path(" + node + ", -1)", MeshNames.UNKNOWN, x -> x.path(node, -1));
            refused("6 path(" + node + ", -2), OUTSIDE too", MeshNames.UNKNOWN, x -> x.path(node, -2));
        }
        for (int i : NO_PLACES) {
            refused("6 path(0, " + i + ")", MeshNames.OUTSIDE, x -> x.path(0, i));
            refused("6 path(4, " + i + "), NO too", MeshNames.OUTSIDE, x -> x.path(4, i));
            refused("6 path(5, " + i + "), STATE too", MeshNames.OUTSIDE, x -> x.path(5, i));
        }
        for (int i : new int[] {-1, 0, 7, Integer.MAX_VALUE}) {
            refused("6 path(5, " + i + ")", MeshNames.STATE, x -> x.path(5, i));
            refused("6 path(4, " + i + ")", MeshNames.NO, x -> x.path(4, i));
        }
    }

    private static void over() {
        for (int node : NO_NODES) {
            refused("7 over(" + node + ", 0)", MeshNames.UNKNOWN, x -> x.over(node, 0));
            refused("7 over(0, " + node + ")", MeshNames.UNKNOWN, x -> x.over(0, node));
            refused("7 over, both " + node, MeshNames.UNKNOWN, x -> x.over(node, node));
            refused("7 over(5, " + node + "), STATE too", MeshNames.UNKNOWN, x -> x.over(5, node));
            refused("7 over(4, " + node + "), NO too", MeshNames.UNKNOWN, x -> x.over(4, node));
        }
        for (int node = 0; node < 8; node++) {
            int other = node;
            refused("7 over(5, " + node + ")", MeshNames.STATE, x -> x.over(5, other));
            refused("7 over(4, " + node + ")", MeshNames.NO, x -> x.over(4, other));
        }
    }

    private static void owner() {
        for (int node : NO_NODES) {
            refused("8 owner(" + node + ", 0)", MeshNames.UNKNOWN, x -> x.owner(node, 0));
            refused("8 owner(" + node + ", 256), OUTSIDE too", MeshNames.UNKNOWN, x -> x.owner(node, 256));
        }
        for (int name : NO_NAMES) {
            refused("8 owner(0, " + name + ")", MeshNames.OUTSIDE, x -> x.owner(0, name));
            refused("8 owner(5, " + name + "), STATE too", MeshNames.OUTSIDE, x -> x.owner(5, name));
        }
        refused("8 owner(5, 0)", MeshNames.STATE, x -> x.owner(5, 0));
        refused("8 owner(6, 255)", MeshNames.STATE, x -> x.owner(6, 255));
    }

    private static void route() {
        for (int node : NO_NODES) {
            refused("9 route(" + node + ", 0, 0)", MeshNames.UNKNOWN, x -> x.route(node, 0, 0));
            refused("9 route(" + node + ", -1, 0), OUTSIDE too", MeshNames.UNKNOWN, x -> x.route(node, -1, 0));
            refused("9 route(" + node + ", 0, -2), OUTSIDE too", MeshNames.UNKNOWN, x -> x.route(node, 0, -2));
        }
        for (int name : NO_NAMES) {
            refused("9 route(0, " + name + ", 0)", MeshNames.OUTSIDE, x -> x.route(0, name, 0));
            refused("9 route(0, " + name + ", -1)", MeshNames.OUTSIDE, x -> x.route(0, name, -1));
            refused("9 route(5, " + name + ", 0), STATE too", MeshNames.OUTSIDE, x -> x.route(5, name, 0));
        }
        for (int i : NO_PLACES) {
            refused("9 route(0, 30, " + i + ")", MeshNames.OUTSIDE, x -> x.route(0, 30, i));
            refused("9 route(4, 40, " + i + ")", MeshNames.OUTSIDE, x -> x.route(4, 40, i));
            refused("9 route(5, 30, " + i + "), STATE too", MeshNames.OUTSIDE, x -> x.route(5, 30, i));
        }
        for (int i : new int[] {-1, 0, Integer.MAX_VALUE}) {
            refused("9 route(5, 0, " + i + ")", MeshNames.STATE, x -> x.route(5, 0, i));
            refused("9 route(6, 255, " + i + ")", MeshNames.STATE, x -> x.route(6, 255, i));
        }
    }

    private static void spare() {
        for (int node : NO_NODES) {
            refused("10 spare(" + node + ", 0)", MeshNames.UNKNOWN, x -> x.spare(node, 0));
            refused("10 spare(" + node + ", 256), OUTSIDE too", MeshNames.UNKNOWN, x -> x.spare(node, 256));
        }
        for (int name : NO_NAMES) {
            refused("10 spare(0, " + name + ")", MeshNames.OUTSIDE, x -> x.spare(0, name));
            refused("10 spare(5, " + name + "), STATE too", MeshNames.OUTSIDE, x -> x.spare(5, name));
        }
        refused("10 spare(5, 0)", MeshNames.STATE, x -> x.spare(5, 0));
        refused("10 spare(6, 255)", MeshNames.STATE, x -> x.spare(6, 255));
    }

    private static void torn() {
        for (int node : NO_NODES) {
            refused("12 torn(" + node + ", 0)", MeshNames.UNKNOWN, x -> x.torn(node, 0));
            refused("12 torn(0, " + node + ")", MeshNames.UNKNOWN, x -> x.torn(0, node));
            refused("12 torn(5, " + node + "), NO too", MeshNames.UNKNOWN, x -> x.torn(5, node));
            refused("12 torn, both " + node, MeshNames.UNKNOWN, x -> x.torn(node, node));
        }
        for (int node = 0; node < 8; node++) {
            int both = node;
            refused("12 torn, both " + node, MeshNames.OUTSIDE, x -> x.torn(both, both));
        }
        refused("12 torn(0, 2), one PART, no LINK", MeshNames.NO, x -> x.torn(0, 2));
        refused("12 torn(0, 7), two PARTS", MeshNames.NO, x -> x.torn(0, 7));
        refused("12 torn(4, 5), 5 is down", MeshNames.NO, x -> x.torn(4, 5));
        refused("12 torn(5, 4), 5 is down", MeshNames.NO, x -> x.torn(5, 4));
        refused("12 torn(5, 6), both are down", MeshNames.NO, x -> x.torn(5, 6));
        refused("12 torn(0, 5), no LINK, 5 is down", MeshNames.NO, x -> x.torn(0, 5));
    }

    private static void worstAndCount() {
        for (int what : outside(0, 3)) {
            refused("11 worst(" + what + ")", MeshNames.OUTSIDE, x -> x.worst(what));
        }
        for (int what : outside(0, 7)) {
            refused("17 count(" + what + ")", MeshNames.OUTSIDE, x -> x.count(what));
        }
    }

    private static void images() {
        for (int k : NO_IMAGES) {
            refused("14 changed(" + k + ")", MeshNames.OUTSIDE, x -> x.changed(k));
            refused("15 image(" + k + ")", MeshNames.OUTSIDE, x -> x.image(k));
            refused("16 restore(" + k + ")", MeshNames.OUTSIDE, x -> x.restore(k));
        }
        refused("14 changed(0)", MeshNames.STATE, x -> x.changed(0));
        refused("16 restore(0)", MeshNames.STATE, x -> x.restore(0));
    }

    private static void asked(String what, Consumer<MeshNames> on) {
        MeshNames x = mesh();
        on.accept(x);
        CHECK.holds(what + " changes nothing", Arrays.equals(Told.all(x), AS_IT_WAS));
    }

    private static void questions() {
        for (int each = 0; each < 8; each++) {
            int n = each;
            asked("5 of(0, " + n + ")", x -> x.of(0, n));
            asked("6 path(" + n + ", 1)", x -> x.path(n, 1));
            asked("7 over(0, " + n + ")", x -> x.over(0, n));
            asked("8 owner(" + n + ", 25)", x -> x.owner(n, 25));
            asked("9 route(" + n + ", 25, 1)", x -> x.route(n, 25, 1));
            asked("10 spare(" + n + ", 25)", x -> x.spare(n, 25));
            asked("11 worst(" + n % 4 + ")", x -> x.worst(n % 4));
            asked("12 torn(1, " + n + ")", x -> x.torn(1, n));
            asked("17 count(" + n + ")", x -> x.count(n));
        }
        asked("13 bridges()", MeshNames::bridges);
        asked("14 changed(1)", x -> x.changed(1));
    }

    private static void seen(String what, Consumer<MeshNames> on) {
        MeshNames x = mesh();
        on.accept(x);
        CHECK.holds(what + " is seen", !Arrays.equals(Told.all(x), AS_IT_WAS));
    }

    /** If these were not seen, that nothing changes would say nothing. */
    private static void toldSeesChanges() {
        seen("2 up(5, 5)", x -> x.up(5, 5));
        seen("3 down(4)", x -> x.down(4));
        seen("4 a LINK that counts", x -> x.link(0, 2, 1));
        seen("4 a LINK that does not", x -> x.link(6, 7, 1));
        seen("4 another of those that do not", x -> {
            x.link(5, 6, 0);
            x.link(6, 7, 1);
        });
        seen("15 image(0)", x -> x.image(0));
        seen("15 image(1)", x -> x.image(1));
        seen("16 restore(1)", x -> x.restore(1));
    }
}
