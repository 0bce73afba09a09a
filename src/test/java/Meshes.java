/** Meshes that several tests begin with. */
final class Meshes {
    private Meshes() {
    }

    /** NODES 0, 1, .. are UP with these NAMES; a NAME below 0 leaves its NODE down. */
    static MeshNames named(int... names) {
        MeshNames mesh = new MeshNames();
        for (int node = 0; node < names.length; node++) {
            if (names[node] >= 0) {
                mesh.up(node, names[node]);
            }
        }
        return mesh;
    }

    /** LINKS lie from each of these NODES to the one behind it. */
    static MeshNames chain(MeshNames mesh, int... nodes) {
        for (int i = 1; i < nodes.length; i++) {
            mesh.link(nodes[i - 1], nodes[i], 1);
        }
        return mesh;
    }

    /** The line 0 - 3 - 1 - 4 - 2 - 5, whose ring is 0, 1, 2, 3, 4, 5. */
    static MeshNames line() {
        return chain(named(100, 110, 120, 130, 140, 150), 0, 3, 1, 4, 2, 5);
    }
}
