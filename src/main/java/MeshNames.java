/** Flat names routed over a mesh, as the numbered promises of DOC.md tell it. */
public final class MeshNames {
    public static final int UNKNOWN = -1, OUTSIDE = -2, STATE = -3, FULL = -4, NO = -5, NONE = -6;

    private static final int NODES = 8;
    private static final int NAMES = 256;
    private static final int IMAGES = 2;

    private final Mesh mesh;
    private final Paths paths;
    private final Route packet;
    private final Survey survey;
    private final Paths[] images;
    private int keptImages;

    public MeshNames() {
        mesh = new Mesh();
        paths = new Paths(mesh);
        packet = new Route(paths);
        survey = new Survey(paths, packet);
        images = new Paths[IMAGES];
        for (int k = 0; k < IMAGES; k++) {
            images[k] = new Paths(new Mesh());
        }
        keptImages = 0;
        paths.lay();
    }

    // ---- 1 nodes, links

    public int up(int node, int name) {
        if (!isNode(node)) {
            return UNKNOWN;
        }
        if (!isName(name)) {
            return OUTSIDE;
        }
        if (mesh.isUp(node)) {
            return STATE;
        }
        if (mesh.isTaken(name)) {
            return NO;
        }
        mesh.raise(node, name);
        paths.lay();
        return Integer.bitCount(mesh.upSet);
    }

    public int down(int node) {
        if (!isNode(node)) {
            return UNKNOWN;
        }
        if (!mesh.isUp(node)) {
            return STATE;
        }
        int name = mesh.names[node];
        mesh.lower(node);
        paths.lay();
        return name;
    }

    public int link(int one, int other, int is) {
        if (!isNode(one) || !isNode(other)) {
            return UNKNOWN;
        }
        if (is < 0 || is > 1 || one == other) {
            return OUTSIDE;
        }
        mesh.setLink(one, other, is == 1);
        paths.lay();
        return mesh.countLinks();
    }

    public int of(int node, int what) {
        if (!isNode(node)) {
            return UNKNOWN;
        }
        if (what < 0 || what > 6) {
            return OUTSIDE;
        }
        if (!mesh.isUp(node)) {
            return STATE;
        }
        switch (what) {
            case 0:
                return mesh.names[node];
            case 1:
                return paths.parts[node];
            case 2:
                return paths.nexts[node];
            case 3:
                return paths.befores[node];
            case 4:
                return Integer.bitCount(mesh.neighbours(node));
            case 5:
                return paths.countOver(node);
            default:
                return paths.countKnown(node);
        }
    }

    public int path(int node, int i) {
        if (!isNode(node)) {
            return UNKNOWN;
        }
        if (i < -1) {
            return OUTSIDE;
        }
        if (!mesh.isUp(node)) {
            return STATE;
        }
        if (!paths.isLaid(node)) {
            return NO;
        }
        return i == -1 ? paths.lengths[node] : paths.nodeAt(node, i);
    }

    public int over(int node, int other) {
        if (!isNode(node) || !isNode(other)) {
            return UNKNOWN;
        }
        if (!mesh.isUp(node)) {
            return STATE;
        }
        if (!paths.isLaid(node)) {
            return NO;
        }
        return paths.goesOver(node, other) ? 1 : 0;
    }

    // ---- 2 packets

    public int owner(int node, int name) {
        int refusal = refusePacket(node, name);
        return refusal != 0 ? refusal : paths.nearestInPart(node, name);
    }

    public int route(int node, int name, int i) {
        if (!isNode(node)) {
            return UNKNOWN;
        }
        if (i < -1) {
            return OUTSIDE;
        }
        int refusal = refusePacket(node, name);
        if (refusal != 0) {
            return refusal;
        }
        packet.follow(node, name);
        return i == -1 ? packet.countSteps() : packet.nodeAt(i);
    }

    public int spare(int node, int name) {
        int refusal = refusePacket(node, name);
        if (refusal != 0) {
            return refusal;
        }
        packet.follow(node, name);
        return packet.countSpare();
    }

    public int worst(int what) {
        if (what < 0 || what > 3) {
            return OUTSIDE;
        }
        survey.take();
        switch (what) {
            case 0:
                return survey.greatestSpare;
            case 1:
                return survey.allSpares;
            case 2:
                return survey.mostSteps;
            default:
                return survey.busiest();
        }
    }

    // ---- 3 what changes

    public int torn(int one, int other) {
        if (!isNode(one) || !isNode(other)) {
            return UNKNOWN;
        }
        if (one == other) {
            return OUTSIDE;
        }
        if (!mesh.countsBetween(one, other)) {
            return NO;
        }
        return paths.laidAlong(one, other);
    }

    public int bridges() {
        int found = 0;
        for (int one = 0; one < NODES; one++) {
            for (int other = one + 1; other < NODES; other++) {
                if (mesh.countsBetween(one, other) && !mesh.holdsWithout(one, other)) {
                    found++;
                }
            }
        }
        return found;
    }

    public int changed(int k) {
        int refusal = refuseImage(k);
        return refusal != 0 ? refusal : paths.countUnlike(images[k]);
    }

    // ---- 4 images

    public int image(int k) {
        if (!isImage(k)) {
            return OUTSIDE;
        }
        images[k].mesh.become(mesh);
        images[k].lay();
        keptImages |= bit(k);
        return 1;
    }

    public int restore(int k) {
        int refusal = refuseImage(k);
        if (refusal != 0) {
            return refusal;
        }
        mesh.become(images[k].mesh);
        paths.lay();
        return 1;
    }

    public int count(int what) {
        switch (what) {
            case 0:
                return Integer.bitCount(mesh.upSet);
            case 1:
                return mesh.countLinks();
            case 2:
                return mesh.countLinksThatCount();
            case 3:
                return paths.countParts();
            case 4:
                return paths.countPaths();
            case 5:
                return paths.countNodesOfPaths();
            case 6:
                return mesh.upSet;
            case 7:
                return keptImages;
            default:
                return OUTSIDE;
        }
    }

    // ---- refusals: 0 says that none fits, as every refusal is below 0

    private int refusePacket(int node, int name) {
        if (!isNode(node)) {
            return UNKNOWN;
        }
        if (!isName(name)) {
            return OUTSIDE;
        }
        return mesh.isUp(node) ? 0 : STATE;
    }

    private int refuseImage(int k) {
        if (!isImage(k)) {
            return OUTSIDE;
        }
        return has(keptImages, k) ? 0 : STATE;
    }

    // ---- numbers and sets

    private static boolean isNode(int node) {
        return node >= 0 && node < NODES;
    }

    private static boolean isName(int name) {
        return name >= 0 && name < NAMES;
    }

    private static boolean isImage(int k) {
        return k >= 0 && k < IMAGES;
    }

    private static int bit(int member) {
        return 1 << member;
    }

    private static boolean has(int set, int member) {
        return (set >> member & 1) != 0;
    }

    /** One number for AWAY and, where two are AWAY alike, the lesser NAME: the least rank is looked for. */
    private static int rank(int name, int wanted) {
        int far = Math.abs(name - wanted);
        return Math.min(far, NAMES - far) * NAMES + name;
    }

    /** What calls change: all that an IMAGE keeps. */
    private static final class Mesh {
        final int[] names;
        final int[] links;
        int upSet;

        Mesh() {
            names = new int[NODES];
            links = new int[NODES];
            upSet = 0;
        }

        boolean isUp(int node) {
            return has(upSet, node);
        }

        boolean isTaken(int name) {
            for (int node = 0; node < NODES; node++) {
                if (isUp(node) && names[node] == name) {
                    return true;
                }
            }
            return false;
        }

        void raise(int node, int name) {
            upSet |= bit(node);
            names[node] = name;
        }

        void lower(int node) {
            upSet &= ~bit(node);
        }

        void setLink(int one, int other, boolean lies) {
            if (lies) {
                links[one] |= bit(other);
                links[other] |= bit(one);
            } else {
                links[one] &= ~bit(other);
                links[other] &= ~bit(one);
            }
        }

        void become(Mesh model) {
            upSet = model.upSet;
            for (int node = 0; node < NODES; node++) {
                names[node] = model.names[node];
                links[node] = model.links[node];
            }
        }

        /** The other ends of the LINKS of a NODE that count. */
        int neighbours(int node) {
            return isUp(node) ? links[node] & upSet : 0;
        }

        int neighboursOfAll(int set) {
            int found = 0;
            for (int node = 0; node < NODES; node++) {
                if (has(set, node)) {
                    found |= neighbours(node);
                }
            }
            return found;
        }

        boolean countsBetween(int one, int other) {
            return has(neighbours(one), other);
        }

        /** Whether two NODES with a LINK that counts come together without it, too. */
        boolean holdsWithout(int one, int other) {
            int reached = bit(one);
            int edge = neighbours(one) & ~bit(other);
            for (int i = 0; i < NODES && edge != 0; i++) {
                reached |= edge;
                edge = neighboursOfAll(edge) & ~reached;
            }
            return has(reached, other);
        }

        int countLinks() {
            int ends = 0;
            for (int node = 0; node < NODES; node++) {
                ends += Integer.bitCount(links[node]);
            }
            return ends / 2;
        }

        int countLinksThatCount() {
            int ends = 0;
            for (int node = 0; node < NODES; node++) {
                ends += Integer.bitCount(neighbours(node));
            }
            return ends / 2;
        }
    }

    /**
     * What follows from a Mesh: PARTS, the ring of each, and the PATHS. It is worked out
     * whole by lay() at each change, so that calls that only ask read it. Rows for pairs
     * are flat: the pair (a, b) is at a * NODES + b.
     */
    private static final class Paths {
        final Mesh mesh;
        final int[] parts;
        final int[] nexts;
        final int[] befores;
        /** How many steps lie between two NODES; NONE where they are not of one PART. */
        final int[] steps;
        /** How many NODES the PATH from a NODE has; 0 where none is laid. */
        final int[] lengths;
        final int[] rows;
        /** Where on the PATH from the first NODE the second one is; NONE where it is not. */
        final int[] places;

        Paths(Mesh mesh) {
            this.mesh = mesh;
            parts = new int[NODES];
            nexts = new int[NODES];
            befores = new int[NODES];
            steps = new int[NODES * NODES];
            lengths = new int[NODES];
            rows = new int[NODES * NODES];
            places = new int[NODES * NODES];
        }

        void lay() {
            for (int node = 0; node < NODES; node++) {
                befores[node] = NONE;
                measureFrom(node);
            }
            for (int node = 0; node < NODES; node++) {
                int next = nextOnRing(node);
                nexts[node] = next;
                if (isNode(next)) {
                    befores[next] = node;
                }
                layFrom(node, next);
            }
        }

        private void measureFrom(int node) {
            int reached = 0;
            int edge = mesh.upSet & bit(node);
            for (int other = 0; other < NODES; other++) {
                steps[node * NODES + other] = NONE;
            }
            for (int far = 0; far < NODES && edge != 0; far++) {
                noteSteps(node, edge, far);
                reached |= edge;
                edge = mesh.neighboursOfAll(edge) & ~reached;
            }
            parts[node] = reached;
        }

        private void noteSteps(int node, int set, int far) {
            for (int other = 0; other < NODES; other++) {
                if (has(set, other)) {
                    steps[node * NODES + other] = far;
                }
            }
        }

        private int nextOnRing(int node) {
            int next = NONE;
            int leastAhead = NAMES;
            for (int other = 0; other < NODES; other++) {
                if (other != node && has(parts[node], other)) {
                    int ahead = Math.floorMod(mesh.names[other] - mesh.names[node], NAMES);
                    if (ahead < leastAhead) {
                        leastAhead = ahead;
                        next = other;
                    }
                }
            }
            return next;
        }

        private void layFrom(int node, int end) {
            lengths[node] = 0;
            for (int other = 0; other < NODES; other++) {
                places[node * NODES + other] = NONE;
            }
            int at = isNode(end) ? node : NONE;
            for (int place = 0; place < NODES && isNode(at); place++) {
                rows[node * NODES + place] = at;
                places[node * NODES + at] = place;
                lengths[node] = place + 1;
                at = firstNearer(at, end);
            }
        }

        /** The least NODE that is one step nearer: taken at each step, it makes the first row of the shortest. */
        private int firstNearer(int at, int end) {
            int left = steps[at * NODES + end] - 1;
            int near = mesh.neighbours(at);
            for (int other = 0; other < NODES && left >= 0; other++) {
                if (has(near, other) && steps[other * NODES + end] == left) {
                    return other;
                }
            }
            return NONE;
        }

        boolean isLaid(int from) {
            return lengths[from] > 0;
        }

        int nodeAt(int from, int place) {
            return place >= 0 && place < lengths[from] ? rows[from * NODES + place] : NONE;
        }

        int placeOf(int from, int node) {
            return places[from * NODES + node];
        }

        boolean goesOver(int from, int node) {
            return placeOf(from, node) != NONE;
        }

        int countOver(int node) {
            int found = 0;
            for (int from = 0; from < NODES; from++) {
                if (goesOver(from, node)) {
                    found++;
                }
            }
            return found;
        }

        int countKnown(int node) {
            int ends = 0;
            for (int from = 0; from < NODES; from++) {
                if (goesOver(from, node)) {
                    ends |= bit(from) | bit(nexts[from]);
                }
            }
            return Integer.bitCount(ends & ~bit(node));
        }

        int nearestInPart(int node, int name) {
            int nearest = node;
            for (int other = 0; other < NODES; other++) {
                if (has(parts[node], other)
                        && rank(mesh.names[other], name) < rank(mesh.names[nearest], name)) {
                    nearest = other;
                }
            }
            return nearest;
        }

        int laidAlong(int one, int other) {
            int found = 0;
            for (int from = 0; from < NODES; from++) {
                if (goesOver(from, one) && goesOver(from, other)
                        && Math.abs(placeOf(from, one) - placeOf(from, other)) == 1) {
                    found |= bit(from);
                }
            }
            return found;
        }

        int countUnlike(Paths kept) {
            int found = 0;
            for (int node = 0; node < NODES; node++) {
                if (mesh.isUp(node) && !isLaidAlike(node, kept)) {
                    found++;
                }
            }
            return found;
        }

        private boolean isLaidAlike(int from, Paths kept) {
            if (lengths[from] != kept.lengths[from]) {
                return false;
            }
            for (int place = 0; place < lengths[from]; place++) {
                if (nodeAt(from, place) != kept.nodeAt(from, place)) {
                    return false;
                }
            }
            return true;
        }

        int countParts() {
            int found = 0;
            for (int node = 0; node < NODES; node++) {
                // a PART is counted at its least NODE
                if (mesh.isUp(node) && (parts[node] & (bit(node) - 1)) == 0) {
                    found++;
                }
            }
            return found;
        }

        int countPaths() {
            int found = 0;
            for (int from = 0; from < NODES; from++) {
                if (isLaid(from)) {
                    found++;
                }
            }
            return found;
        }

        int countNodesOfPaths() {
            int found = 0;
            for (int from = 0; from < NODES; from++) {
                found += lengths[from];
            }
            return found;
        }
    }

    /**
     * The ROUTE of one packet; its row is used again for the next one. No NODE comes twice:
     * with each step the end that is looked for is a better one or has fewer steps left.
     */
    private static final class Route {
        private final Paths paths;
        private final int[] row;
        private int length;
        private int bestRank;
        private int fewestLeft;
        private int hop;

        Route(Paths paths) {
            this.paths = paths;
            row = new int[NODES];
            length = 0;
            bestRank = 0;
            fewestLeft = 0;
            hop = NONE;
        }

        void follow(int node, int name) {
            length = 0;
            int at = node;
            for (int i = 0; i < NODES && isNode(at); i++) {
                row[i] = at;
                length = i + 1;
                at = hopFrom(at, name);
            }
        }

        /** The NODE to which a packet goes on; NONE where it stays. */
        private int hopFrom(int at, int name) {
            bestRank = rank(paths.mesh.names[at], name);
            fewestLeft = 0;
            hop = NONE;
            for (int from = 0; from < NODES; from++) {
                if (paths.goesOver(from, at)) {
                    weighEnds(from, paths.placeOf(from, at), name);
                }
            }
            return hop;
        }

        private void weighEnds(int from, int place, int name) {
            int last = paths.lengths[from] - 1;
            int end = paths.nexts[from];
            if (place > 0) {
                weigh(rank(paths.mesh.names[from], name), place, paths.nodeAt(from, place - 1));
            }
            if (place < last && isNode(end)) {
                weigh(rank(paths.mesh.names[end], name), last - place, paths.nodeAt(from, place + 1));
            }
        }

        /** PATHS are weighed from the lesser NODE on, so that of two alike the first one stays. */
        private void weigh(int rankOfEnd, int left, int towards) {
            if (rankOfEnd < bestRank || rankOfEnd == bestRank && left < fewestLeft) {
                bestRank = rankOfEnd;
                fewestLeft = left;
                hop = towards;
            }
        }

        int countSteps() {
            return length - 1;
        }

        int nodeAt(int i) {
            return i >= 0 && i < length ? row[i] : NONE;
        }

        int lastNode() {
            return nodeAt(length - 1);
        }

        int countSpare() {
            int first = nodeAt(0);
            int last = lastNode();
            if (!isNode(first) || !isNode(last)) {
                return 0;
            }
            return countSteps() - paths.steps[first * NODES + last];
        }

        /** The NODES on it that are neither its first nor its last one. */
        int between() {
            int found = 0;
            for (int i = 1; i < length - 1; i++) {
                found |= bit(row[i]);
            }
            return found & ~bit(nodeAt(0)) & ~bit(lastNode());
        }
    }

    /** The ROUTES from each NODE to each other one of its PART, looked at together. */
    private static final class Survey {
        private final Paths paths;
        private final Route packet;
        private final int[] visits;
        int greatestSpare;
        int allSpares;
        int mostSteps;

        Survey(Paths paths, Route packet) {
            this.paths = paths;
            this.packet = packet;
            visits = new int[NODES];
            clear();
        }

        private void clear() {
            greatestSpare = 0;
            allSpares = 0;
            mostSteps = 0;
            for (int node = 0; node < NODES; node++) {
                visits[node] = 0;
            }
        }

        void take() {
            clear();
            for (int node = 0; node < NODES; node++) {
                for (int other = 0; other < NODES; other++) {
                    if (other != node && has(paths.parts[node], other)) {
                        packet.follow(node, paths.mesh.names[other]);
                        note();
                    }
                }
            }
        }

        private void note() {
            int spareSteps = packet.countSpare();
            greatestSpare = Math.max(greatestSpare, spareSteps);
            allSpares += spareSteps;
            mostSteps = Math.max(mostSteps, packet.countSteps());
            int between = packet.between();
            for (int node = 0; node < NODES; node++) {
                if (has(between, node)) {
                    visits[node]++;
                }
            }
        }

        int busiest() {
            int found = NONE;
            int most = 0;
            for (int node = 0; node < NODES; node++) {
                if (visits[node] > most) {
                    most = visits[node];
                    found = node;
                }
            }
            return found;
        }
    }
}
