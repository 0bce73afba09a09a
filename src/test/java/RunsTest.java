import java.util.Random;

/** All promises: long runs of calls, mixed, each answer held against the Model's. */
final class RunsTest {
    private static final int RUNS = 400;
    private static final int CALLS = 512;
    private static final int[] ODD = {Integer.MIN_VALUE, -2, -1, 8, 9, 256, Integer.MAX_VALUE};

    private final Check check;
    private final Random random;
    private final int run;
    private final MeshNames mesh = new MeshNames();
    private final Model model = new Model();
    /** In runs with few NAMES they meet and lie AWAY alike often. */
    private final int namesApart;
    private final int linkLikely;

    private RunsTest(Check check, int run) {
        this.check = check;
        this.run = run;
        random = new Random(run);
        namesApart = new int[] {1, 1, 16, 32}[run % 4];
        linkLikely = 1 + run % 5;
    }

    public static void main(String[] args) {
        Check check = new Check();
        for (int run = 0; run < RUNS && check.isClean(); run++) {
            new RunsTest(check, run).go();
        }
        check.end();
    }

    private void go() {
        for (int i = 0; i < CALLS && check.isClean(); i++) {
            if (i < 24 || random.nextInt(4) == 0) {
                change();
            } else {
                ask();
            }
        }
    }

    private boolean isOdd() {
        return random.nextInt(60) == 0;
    }

    private int odd() {
        return ODD[random.nextInt(ODD.length)];
    }

    private int node() {
        return isOdd() ? odd() : random.nextInt(8);
    }

    private int name() {
        return isOdd() ? odd() : random.nextInt(256 / namesApart) * namesApart;
    }

    private int place() {
        return isOdd() ? odd() : random.nextInt(9) - 1;
    }

    private int below(int bound) {
        return isOdd() ? odd() : random.nextInt(bound);
    }

    private void due(String call, int got, int want) {
        check.due("run " + run + ": " + call, got, want);
    }

    private void change() {
        int a = node();
        int b = node();
        int name = name();
        int k = below(2);
        int is = isOdd() ? odd() : random.nextInt(6) < linkLikely ? 1 : 0;
        switch (random.nextInt(16)) {
            case 0:
            case 1:
                due("down(" + a + ")", mesh.down(a), model.down(a));
                break;
            case 2:
                due("image(" + k + ")", mesh.image(k), model.image(k));
                break;
            case 3:
                due("restore(" + k + ")", mesh.restore(k), model.restore(k));
                break;
            case 4:
            case 5:
            case 6:
            case 7:
            case 8:
                due("up(" + a + ", " + name + ")", mesh.up(a, name), model.up(a, name));
                break;
            default:
                due("link(" + a + ", " + b + ", " + is + ")", mesh.link(a, b, is), model.link(a, b, is));
        }
    }

    private void ask() {
        int a = node();
        int b = node();
        int name = name();
        int i = place();
        int what = below(8);
        switch (random.nextInt(12)) {
            case 0:
                due("of(" + a + ", " + what + ")", mesh.of(a, what), model.of(a, what));
                break;
            case 1:
                due("path(" + a + ", " + i + ")", mesh.path(a, i), model.path(a, i));
                break;
            case 2:
                due("over(" + a + ", " + b + ")", mesh.over(a, b), model.over(a, b));
                break;
            case 3:
                due("owner(" + a + ", " + name + ")", mesh.owner(a, name), model.owner(a, name));
                break;
            case 4:
            case 5:
                due("route(" + a + ", " + name + ", " + i + ")", mesh.route(a, name, i), model.route(a, name, i));
                break;
            case 6:
                due("spare(" + a + ", " + name + ")", mesh.spare(a, name), model.spare(a, name));
                break;
            case 7:
                int half = what / 2;
                due("worst(" + half + ")", mesh.worst(half), model.worst(half));
                break;
            case 8:
                due("torn(" + a + ", " + b + ")", mesh.torn(a, b), model.torn(a, b));
                break;
            case 9:
                due("bridges()", mesh.bridges(), model.bridges());
                break;
            case 10:
                int k = below(2);
                due("changed(" + k + ")", mesh.changed(k), model.changed(k));
                break;
            default:
                due("count(" + what + ")", mesh.count(what), model.count(what));
        }
    }
}
