import java.util.Arrays;

/**
 * All that an object tells, asked at once, so that a test can say that two objects are alike.
 * It asks some 410 times: an object that was made with up to 100 calls is asked within its 512.
 */
final class Told {
    private static final int[] NAMES = {0, 65, 255};

    private final int[] answers = new int[512];
    private int length = 0;

    private Told() {
    }

    /** All but IMAGES; it changes nothing. */
    static int[] now(MeshNames x) {
        Told told = new Told();
        told.askNow(x);
        return told.answers();
    }

    /** IMAGES and LINKS that do not count, too; the object is another one behind it. */
    static int[] all(MeshNames x) {
        Told told = new Told();
        told.askNow(x);
        told.add(x.count(7));
        told.askLinks(x);
        for (int k = 0; k < 2; k++) {
            told.add(x.restore(k));
            told.askWhoIsUp(x);
            told.askLinks(x);
        }
        // behind restore(), so that a changed() that spoils what is kept does not do so here for all alike
        told.add(x.changed(0));
        told.add(x.changed(1));
        return told.answers();
    }

    private int[] answers() {
        return Arrays.copyOf(answers, length);
    }

    private void add(int answer) {
        answers[length] = answer;
        length++;
    }

    private void askNow(MeshNames x) {
        for (int node = 0; node < 8; node++) {
            for (int what = 0; what <= 6; what++) {
                add(x.of(node, what));
            }
            for (int i = -1; i < 8; i++) {
                add(x.path(node, i));
            }
            for (int name : NAMES) {
                add(x.owner(node, name));
                add(x.route(node, name, -1));
                add(x.route(node, name, 1));
                add(x.spare(node, name));
            }
        }
        for (int what = 0; what <= 3; what++) {
            add(x.worst(what));
        }
        for (int what = 0; what <= 6; what++) {
            add(x.count(what));
        }
        add(x.bridges());
        askTorn(x);
    }

    private void askTorn(MeshNames x) {
        for (int one = 0; one < 8; one++) {
            for (int other = one + 1; other < 8; other++) {
                add(x.torn(one, other));
            }
        }
    }

    private void askWhoIsUp(MeshNames x) {
        for (int what = 0; what <= 6; what++) {
            add(x.count(what));
        }
        for (int node = 0; node < 8; node++) {
            add(x.of(node, 0));
        }
    }

    /** LINKS are told one by one only while their NODES are UP. */
    private void askLinks(MeshNames x) {
        for (int node = 0; node < 8; node++) {
            x.up(node, 240 + node);
        }
        askTorn(x);
    }
}
