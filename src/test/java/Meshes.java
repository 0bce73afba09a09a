/** Meshes that several tests begin with. */
final class Meshes {
    private Meshes() {
    }

    /** NODES 0, 1, .. are UP with these NAMES; a NAME below 0 leaves its NODE down. */
    static MeshNames named(int... names) {
        MeshNames mesh = new MeshNames();
        for (int node = 0; node < names.length; node++) {
            if (names[node] >= 0) {
                mesh.up(node, names[node]);
            }
        }
        return mesh;
    }

    /** LINKS lie from each of these NODES to the one behind it. */
    static MeshNames chain(MeshNames mesh, int... nodes) {
        for (int i = 1; i < nodes.length; i++) {
            mesh.link(nodes[i - 1], nodes[i], 1);
        }
        return mesh;
    }

    /** The line 0 - 3 - 1 - 4 - 2 - 5, whose ring is 0, 1, 2, 3, 4, 5. */
    static MeshNames line() {
        return chain(named(100, 110, 120, 130, 140, 150), 0, 3, 1, 4, 2, 5);
    }

    /** All NODES are UP, with NAMES 32 from one another, and all 28 LINKS lie. */
    static MeshNames whole() {
        MeshNames mesh = named(0, 32, 64, 96, 128, 160, 192, 224);
        for (int one = 0; one < 8; one++) {
            for (int other = one + 1; other < 8; other++) {
                mesh.link(one, other, 1);
            }
        }
        return mesh;
    }

    /** The line 0 - 1 - .. - 7, whose ring is 0, 4, 1, 5, 2, 6, 3, 7: all PATHS go over its middle. */
    static MeshNames crossed() {
        return chain(named(0, 2, 4, 6, 1, 3, 5, 7), 0, 1, 2, 3, 4, 5, 6, 7);
    }
}
