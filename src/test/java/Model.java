import java.util.ArrayList;
import java.util.List;

/**
 * The document told again in its plainest words, with no regard to speed: rows are found by
 * trying all of them. RunsTest holds the program against it.
 */
final class Model {
    private static final class State {
        final Integer[] names = new Integer[8];
        final boolean[][] links = new boolean[8][8];

        State copy() {
            State copy = new State();
            for (int i = 0; i < 8; i++) {
                copy.names[i] = names[i];
                copy.links[i] = links[i].clone();
            }
            return copy;
        }

        boolean counts(int a, int b) {
            return links[a][b] && names[a] != null && names[b] != null;
        }

        List<Integer> part(int node) {
            List<Integer> part = new ArrayList<>();
            for (int other = 0; other < 8; other++) {
                if (names[other] != null && shortest(node, other) != null) {
                    part.add(other);
                }
            }
            return part;
        }

        /** The first of the rows with the fewest NODES; null where there is none. */
        List<Integer> shortest(int from, int to) {
            for (int nodes = 1; nodes <= 8; nodes++) {
                List<Integer> row = new ArrayList<>(List.of(from));
                if (extend(row, to, nodes)) {
                    return row;
                }
            }
            return null;
        }

        private boolean extend(List<Integer> row, int to, int nodes) {
            int at = row.get(row.size() - 1);
            if (row.size() == nodes) {
                return at == to;
            }
            for (int other = 0; other < 8; other++) {
                if (counts(at, other) && !row.contains(other)) {
                    row.add(other);
                    if (extend(row, to, nodes)) {
                        return true;
                    }
                    row.remove(row.size() - 1);
                }
            }
            return false;
        }

        Integer next(int node) {
            Integer above = null;
            Integer least = null;
            for (int other : part(node)) {
                if (other == node) {
                    continue;
                }
                if (least == null || names[other] < names[least]) {
                    least = other;
                }
                if (names[other] > names[node] && (above == null || names[other] < names[above])) {
                    above = other;
                }
            }
            // where the NODE's own NAME is the greatest, the least of all is another one's
            return above != null ? above : least;
        }

        List<Integer> laid(int node) {
            Integer next = names[node] == null ? null : next(node);
            return next == null ? null : shortest(node, next);
        }
    }

    private State now = new State();
    private final State[] kept = new State[2];
    private List<List<Integer>> laid;

    Model() {
        layAll();
    }

    private void layAll() {
        laid = new ArrayList<>();
        for (int node = 0; node < 8; node++) {
            laid.add(now.laid(node));
        }
    }

    private boolean isUp(int node) {
        return now.names[node] != null;
    }

    private static boolean isIn(int number, int least, int most) {
        return least <= number && number <= most;
    }

    int up(int node, int name) {
        if (!isIn(node, 0, 7)) {
            return MeshNames.UNKNOWN;
        }
        if (!isIn(name, 0, 255)) {
            return MeshNames.OUTSIDE;
        }
        if (isUp(node)) {
            return MeshNames.STATE;
        }
        if (List.of(upNames()).contains(name)) {
            return MeshNames.NO;
        }
        now.names[node] = name;
        layAll();
        return count(0);
    }

    private Integer[] upNames() {
        List<Integer> found = new ArrayList<>();
        for (Integer name : now.names) {
            if (name != null) {
                found.add(name);
            }
        }
        return found.toArray(new Integer[0]);
    }

    int down(int node) {
        if (!isIn(node, 0, 7)) {
            return MeshNames.UNKNOWN;
        }
        if (!isUp(node)) {
            return MeshNames.STATE;
        }
        int name = now.names[node];
        now.names[node] = null;
        layAll();
        return name;
    }

    int link(int one, int other, int is) {
        if (!isIn(one, 0, 7) || !isIn(other, 0, 7)) {
            return MeshNames.UNKNOWN;
        }
        if (!isIn(is, 0, 1) || one == other) {
            return MeshNames.OUTSIDE;
        }
        now.links[one][other] = is == 1;
        now.links[other][one] = is == 1;
        layAll();
        return count(1);
    }

    int of(int node, int what) {
        if (!isIn(node, 0, 7)) {
            return MeshNames.UNKNOWN;
        }
        if (!isIn(what, 0, 6)) {
            return MeshNames.OUTSIDE;
        }
        if (!isUp(node)) {
            return MeshNames.STATE;
        }
        int found = 0;
        switch (what) {
            case 0:
                return now.names[node];
            case 1:
                for (int other : now.part(node)) {
                    found |= 1 << other;
                }
                return found;
            case 2:
                return now.next(node) == null ? MeshNames.NONE : now.next(node);
            case 3:
                for (int other : now.part(node)) {
                    if (now.next(other) != null && now.next(other) == node) {
                        return other;
                    }
                }
                return MeshNames.NONE;
            case 4:
                for (int other = 0; other < 8; other++) {
                    found += now.counts(node, other) ? 1 : 0;
                }
                return found;
            case 5:
                return over(node).size();
            default:
                List<Integer> known = known(node);
                known.remove(Integer.valueOf(node));
                return known.size();
        }
    }

    /** The PATHS that GO OVER a NODE. */
    private List<List<Integer>> over(int node) {
        List<List<Integer>> found = new ArrayList<>();
        for (List<Integer> row : laid) {
            if (row != null && row.contains(node)) {
                found.add(row);
            }
        }
        return found;
    }

    /** The NODE itself and the ends of PATHS over it, each once. */
    private List<Integer> known(int node) {
        List<Integer> known = new ArrayList<>(List.of(node));
        for (List<Integer> row : over(node)) {
            for (int end : new int[] {row.get(0), row.get(row.size() - 1)}) {
                if (!known.contains(end)) {
                    known.add(end);
                }
            }
        }
        return known;
    }

    int path(int node, int i) {
        if (!isIn(node, 0, 7)) {
            return MeshNames.UNKNOWN;
        }
        if (i < -1) {
            return MeshNames.OUTSIDE;
        }
        if (!isUp(node)) {
            return MeshNames.STATE;
        }
        List<Integer> row = laid.get(node);
        if (row == null) {
            return MeshNames.NO;
        }
        return i == -1 ? row.size() : i < row.size() ? row.get(i) : MeshNames.NONE;
    }

    int over(int node, int other) {
        if (!isIn(node, 0, 7) || !isIn(other, 0, 7)) {
            return MeshNames.UNKNOWN;
        }
        if (!isUp(node)) {
            return MeshNames.STATE;
        }
        List<Integer> row = laid.get(node);
        return row == null ? MeshNames.NO : row.contains(other) ? 1 : 0;
    }

    private static int away(int one, int other) {
        int far = one > other ? one - other : other - one;
        return 256 - far < far ? 256 - far : far;
    }

    private int nearest(List<Integer> nodes, int name) {
        int best = nodes.get(0);
        for (int node : nodes) {
            int far = away(now.names[node], name);
            int least = away(now.names[best], name);
            if (far < least || far == least && now.names[node] < now.names[best]) {
                best = node;
            }
        }
        return best;
    }

    private int refusePacket(int node, int name, int i) {
        if (!isIn(node, 0, 7)) {
            return MeshNames.UNKNOWN;
        }
        if (!isIn(name, 0, 255) || i < -1) {
            return MeshNames.OUTSIDE;
        }
        return isUp(node) ? 1 : MeshNames.STATE;
    }

    int owner(int node, int name) {
        int refusal = refusePacket(node, name, 0);
        return refusal < 0 ? refusal : nearest(now.part(node), name);
    }

    private List<Integer> routeRow(int node, int name) {
        List<Integer> row = new ArrayList<>(List.of(node));
        for (int i = 0; i < 1000; i++) {
            int at = row.get(row.size() - 1);
            int end = nearest(known(at), name);
            if (end == at) {
                return row;
            }
            row.add(hop(at, end));
        }
        throw new IllegalStateException("a packet that is never delivered");
    }

    private int hop(int at, int end) {
        int fewest = 1000;
        int hop = -1;
        for (List<Integer> row : over(at)) {
            int place = row.indexOf(at);
            int last = row.size() - 1;
            if (row.get(0) == end && place < fewest) {
                fewest = place;
                hop = row.get(place - 1);
            } else if (row.get(last) == end && last - place < fewest) {
                fewest = last - place;
                hop = row.get(place + 1);
            }
        }
        return hop;
    }

    int route(int node, int name, int i) {
        int refusal = refusePacket(node, name, i);
        if (refusal < 0) {
            return refusal;
        }
        List<Integer> row = routeRow(node, name);
        return i == -1 ? row.size() - 1 : i < row.size() ? row.get(i) : MeshNames.NONE;
    }

    private int spareOf(List<Integer> row) {
        return row.size() - now.shortest(row.get(0), row.get(row.size() - 1)).size();
    }

    int spare(int node, int name) {
        int refusal = refusePacket(node, name, 0);
        return refusal < 0 ? refusal : spareOf(routeRow(node, name));
    }

    int worst(int what) {
        if (!isIn(what, 0, 3)) {
            return MeshNames.OUTSIDE;
        }
        int[] told = new int[3];
        int[] on = new int[8];
        for (int node = 0; node < 8; node++) {
            for (int other = 0; other < 8; other++) {
                if (node != other && isUp(node) && isUp(other) && now.part(node).contains(other)) {
                    List<Integer> row = routeRow(node, now.names[other]);
                    told[0] = Math.max(told[0], spareOf(row));
                    told[1] += spareOf(row);
                    told[2] = Math.max(told[2], row.size() - 1);
                    for (int third = 0; third < 8; third++) {
                        boolean isEnd = third == node || third == row.get(row.size() - 1);
                        on[third] += !isEnd && row.contains(third) ? 1 : 0;
                    }
                }
            }
        }
        return what < 3 ? told[what] : firstOfMost(on);
    }

    private static int firstOfMost(int[] on) {
        int best = 0;
        for (int node = 0; node < 8; node++) {
            best = on[node] > on[best] ? node : best;
        }
        return on[best] == 0 ? MeshNames.NONE : best;
    }

    int torn(int one, int other) {
        if (!isIn(one, 0, 7) || !isIn(other, 0, 7)) {
            return MeshNames.UNKNOWN;
        }
        if (one == other) {
            return MeshNames.OUTSIDE;
        }
        if (!now.counts(one, other)) {
            return MeshNames.NO;
        }
        int found = 0;
        for (int node = 0; node < 8; node++) {
            List<Integer> row = laid.get(node);
            for (int i = 1; row != null && i < row.size(); i++) {
                int ahead = row.get(i - 1);
                int behind = row.get(i);
                if (ahead == one && behind == other || ahead == other && behind == one) {
                    found |= 1 << node;
                }
            }
        }
        return found;
    }

    private static int parts(State state) {
        int found = 0;
        for (int node = 0; node < 8; node++) {
            found += state.names[node] != null && state.part(node).get(0) == node ? 1 : 0;
        }
        return found;
    }

    int bridges() {
        int found = 0;
        for (int one = 0; one < 8; one++) {
            for (int other = 0; other < one; other++) {
                if (now.counts(one, other)) {
                    State without = now.copy();
                    without.links[one][other] = false;
                    without.links[other][one] = false;
                    found += parts(without) > parts(now) ? 1 : 0;
                }
            }
        }
        return found;
    }

    private int refuseImage(int k) {
        return !isIn(k, 0, 1) ? MeshNames.OUTSIDE : kept[k] == null ? MeshNames.STATE : 1;
    }

    int changed(int k) {
        if (refuseImage(k) < 0) {
            return refuseImage(k);
        }
        int found = 0;
        for (int node = 0; node < 8; node++) {
            List<Integer> before = kept[k].laid(node);
            List<Integer> row = laid.get(node);
            boolean isSame = row == null ? before == null : row.equals(before);
            found += isUp(node) && !isSame ? 1 : 0;
        }
        return found;
    }

    int image(int k) {
        if (!isIn(k, 0, 1)) {
            return MeshNames.OUTSIDE;
        }
        kept[k] = now.copy();
        return 1;
    }

    int restore(int k) {
        if (refuseImage(k) < 0) {
            return refuseImage(k);
        }
        now = kept[k].copy();
        layAll();
        return 1;
    }

    int count(int what) {
        int found = 0;
        for (int one = 0; one < 8; one++) {
            List<Integer> row = laid.get(one);
            found += what == 0 && isUp(one) ? 1 : 0;
            found += what == 4 && row != null ? 1 : 0;
            found += what == 5 && row != null ? row.size() : 0;
            found += what == 6 && isUp(one) ? 1 << one : 0;
            for (int other = 0; other < one; other++) {
                found += what == 1 && now.links[one][other] ? 1 : 0;
                found += what == 2 && now.counts(one, other) ? 1 : 0;
            }
        }
        if (what == 3) {
            found = parts(now);
        }
        if (what == 7) {
            found = (kept[0] != null ? 1 : 0) + (kept[1] != null ? 2 : 0);
        }
        return isIn(what, 0, 7) ? found : MeshNames.OUTSIDE;
    }
}
