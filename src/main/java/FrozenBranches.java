import java.util.Arrays;
import java.util.NoSuchElementException;

/**
 * Keeps a map that can be frozen, gone back to, and made safe on a disk whose power may fail: maps
 * share the branches that are alike, what is changed is copied first, and what nobody has any more
 * is free at once.
 */
public final class FrozenBranches {
    public static final int NONE = -1;

    private static final int KEYS = 64;
    private static final int CURRENT = 0;
    private static final int SNAPSHOTS = 6;
    private static final int LAST_ORDER = 100;

    private final Room room = new Room();

    // A map is the number of its node at level 0: Room.NO_NODE for an empty map, NONE for no map.
    private final int[] roots = new int[SNAPSHOTS + 1];
    private final int[] diskRoots = new int[SNAPSHOTS + 1];

    private boolean powerless;
    private int writesMade;
    private int writesBeforeFailure = NONE;

    public FrozenBranches() {
        Arrays.fill(roots, NONE);
        roots[CURRENT] = Room.NO_NODE;
        System.arraycopy(roots, 0, diskRoots, 0, roots.length);
    }

    public int put(int key, int value)
            throws IllegalStateException, IllegalArgumentException, UnsupportedOperationException {
        requireUp();
        if (!isKey(key)) {
            throw new IllegalArgumentException("no such key");
        }
        boolean bound = room.binds(roots[CURRENT], key);
        if (bound && room.valueOf(roots[CURRENT], key) == value) {
            return 2;
        }
        ownCurrentPath(key, Room.LEVELS);
        room.bind(roots[CURRENT], key, value);
        return bound ? 1 : 0;
    }

    public int remove(int key)
            throws IllegalStateException, NoSuchElementException, UnsupportedOperationException {
        requireUp();
        requireBound(roots[CURRENT], key);
        int value = room.valueOf(roots[CURRENT], key);
        int levels = room.levelsWithout(roots[CURRENT], key);
        ownCurrentPath(key, levels);
        room.cut(roots[CURRENT], key, levels);
        return value;
    }

    public int get(int handle, int key)
            throws IllegalStateException, IllegalArgumentException, NoSuchElementException {
        requireUp();
        requireMap(handle);
        requireBound(roots[handle], key);
        return room.valueOf(roots[handle], key);
    }

    public int next(int handle, int from) throws IllegalStateException, IllegalArgumentException {
        requireUp();
        requireMap(handle);
        for (int key = Math.max(from, 0); key < KEYS; key++) {
            if (room.binds(roots[handle], key)) {
                return key;
            }
        }
        return NONE;
    }

    public int count(int handle) throws IllegalStateException, IllegalArgumentException {
        requireUp();
        requireMap(handle);
        return keysBound(roots[handle]);
    }

    public int nodes(int handle) throws IllegalStateException, IllegalArgumentException {
        requireUp();
        requireMap(handle);
        room.unmarkAll();
        return room.mark(roots[handle]);
    }

    public int shared(int a, int b) throws IllegalStateException, IllegalArgumentException {
        requireUp();
        requireMap(a);
        requireMap(b);
        room.unmarkAll();
        int nodesOfB = room.mark(roots[b]);
        room.unmarkAll();
        room.mark(roots[a]);
        int nodesOfBAlone = room.mark(roots[b]);
        return nodesOfB - nodesOfBAlone;
    }

    public int differ(int a, int b) throws IllegalStateException, IllegalArgumentException {
        requireUp();
        requireMap(a);
        requireMap(b);
        int unlike = 0;
        for (int key = 0; key < KEYS; key++) {
            if (!isBoundAlike(roots[a], roots[b], key)) {
                unlike++;
            }
        }
        return unlike;
    }

    public int snapshot() throws IllegalStateException, UnsupportedOperationException {
        requireUp();
        int handle = leastUnusedSnapshot();
        if (handle == NONE) {
            throw new UnsupportedOperationException("all snapshots are there");
        }
        roots[handle] = roots[CURRENT];
        room.freeze();
        return handle;
    }

    public int rollback(int handle) throws IllegalStateException, IllegalArgumentException {
        requireUp();
        requireSnapshot(handle);
        roots[CURRENT] = roots[handle];
        return keysBound(roots[CURRENT]);
    }

    public int drop(int handle) throws IllegalStateException, IllegalArgumentException {
        requireUp();
        requireSnapshot(handle);
        int freeBefore = freeNodes();
        roots[handle] = NONE;
        return freeNodes() - freeBefore;
    }

    public int commit() throws IllegalStateException {
        requireUp();
        int needed = writesNeeded();
        if (failsWithin(needed)) {
            losePower();
            throw new IllegalStateException("the power failed");
        }
        if (writesBeforeFailure != NONE) {
            writesBeforeFailure -= needed;
        }
        writesMade += needed;
        System.arraycopy(roots, 0, diskRoots, 0, roots.length);
        room.freeze();
        return needed;
    }

    public int free() throws IllegalStateException {
        requireUp();
        return freeNodes();
    }

    public int due() throws IllegalStateException {
        requireUp();
        return writesNeeded();
    }

    public boolean order(int n) {
        if (n < 0 || n > LAST_ORDER) {
            return false;
        }
        writesBeforeFailure = n;
        return true;
    }

    public int recover() {
        if (!powerless) {
            return NONE;
        }
        // Nothing on the disk is fresh: it was frozen by the commit that brought it there.
        System.arraycopy(diskRoots, 0, roots, 0, roots.length);
        powerless = false;
        return snapshotsThere();
    }

    public int writes() {
        return writesMade;
    }

    public boolean down() {
        return powerless;
    }

    private void requireUp() {
        if (powerless) {
            throw new IllegalStateException("the store is down");
        }
    }

    private void requireMap(int handle) {
        if (!isMap(handle)) {
            throw new IllegalArgumentException("no map of this handle");
        }
    }

    private void requireSnapshot(int handle) {
        if (handle == CURRENT || !isMap(handle)) {
            throw new IllegalArgumentException("no snapshot of this number");
        }
    }

    private void requireBound(int root, int key) {
        if (!isKey(key) || !room.binds(root, key)) {
            throw new NoSuchElementException("the key is not bound");
        }
    }

    private void ownCurrentPath(int key, int levels) {
        // Counting what is free marks every node that is in some map, as ownPath wants it.
        int freeBefore = freeNodes();
        if (room.nodesToMake(roots[CURRENT], key, levels) > freeBefore) {
            throw new UnsupportedOperationException("no room");
        }
        roots[CURRENT] = room.ownPath(roots[CURRENT], key, levels);
    }

    private boolean isKey(int key) {
        return key >= 0 && key < KEYS;
    }

    private boolean isMap(int handle) {
        return handle >= 0 && handle < roots.length && roots[handle] != NONE;
    }

    private boolean isBoundAlike(int rootA, int rootB, int key) {
        if (!room.binds(rootA, key) || !room.binds(rootB, key)) {
            return room.binds(rootA, key) == room.binds(rootB, key);
        }
        return room.valueOf(rootA, key) == room.valueOf(rootB, key);
    }

    private int keysBound(int root) {
        int bound = 0;
        for (int key = 0; key < KEYS; key++) {
            if (room.binds(root, key)) {
                bound++;
            }
        }
        return bound;
    }

    private int leastUnusedSnapshot() {
        for (int handle = 1; handle < roots.length; handle++) {
            if (roots[handle] == NONE) {
                return handle;
            }
        }
        return NONE;
    }

    private int snapshotsThere() {
        int there = 0;
        for (int handle = 1; handle < roots.length; handle++) {
            if (roots[handle] != NONE) {
                there++;
            }
        }
        return there;
    }

    private int freeNodes() {
        room.unmarkAll();
        return Room.NODES - markMaps(diskRoots) - markMaps(roots);
    }

    private int writesNeeded() {
        room.unmarkAll();
        markMaps(diskRoots);
        return markMaps(roots) + 1;
    }

    /** Answers how many nodes of these maps were not marked before. */
    private int markMaps(int[] maps) {
        int marked = 0;
        for (int handle = 0; handle < maps.length; handle++) {
            if (maps[handle] != NONE) {
                marked += room.mark(maps[handle]);
            }
        }
        return marked;
    }

    private boolean failsWithin(int needed) {
        return writesBeforeFailure != NONE && writesBeforeFailure < needed;
    }

    private void losePower() {
        writesMade += writesBeforeFailure;
        writesBeforeFailure = NONE;
        powerless = true;
    }

    /**
     * The nodes of all maps, told apart by number. A node has four turns, one for each 2 bits of a
     * key: at the levels above the last a turn leads to the node below, at the last to a value.
     */
    private static final class Room {
        static final int NODES = 60;
        static final int LEVELS = 3;

        // Stands where no node is. Its turns are all closed and it is never fresh, so a path that
        // breaks off can be walked on without harm, and a new node is a copy of it.
        static final int NO_NODE = 0;

        private static final int TURNS = 4;

        private final int[][] ways = new int[NODES + 1][TURNS];
        private final int[] openTurns = new int[NODES + 1];
        private final boolean[] fresh = new boolean[NODES + 1];
        private final boolean[] marked = new boolean[NODES + 1];

        boolean binds(int root, int key) {
            int leaf = nodeAt(root, key, LEVELS - 1);
            return (openTurns[leaf] & bitOf(key, LEVELS - 1)) != 0;
        }

        int valueOf(int root, int key) {
            return ways[nodeAt(root, key, LEVELS - 1)][turnOf(key, LEVELS - 1)];
        }

        /** How many levels the key's path has once the key is unbound. */
        int levelsWithout(int root, int key) {
            int levels = LEVELS;
            while (levels > 0 && holdsNothingElse(root, key, levels - 1)) {
                levels--;
            }
            return levels;
        }

        int nodesToMake(int root, int key, int levels) {
            int stale = 0;
            for (int level = 0; level < levels; level++) {
                if (!fresh[nodeAt(root, key, level)]) {
                    stale++;
                }
            }
            return stale;
        }

        /**
         * Makes the first levels of a path the current map's own and answers its root then. Every
         * node that is in some map must be marked, for new nodes are taken from the unmarked.
         */
        int ownPath(int root, int key, int levels) {
            if (levels <= 0) {
                return NO_NODE;
            }
            int ownRoot = own(root);
            int node = ownRoot;
            for (int level = 0; level < levels - 1; level++) {
                int below = own(ways[node][turnOf(key, level)]);
                open(node, key, level, below);
                node = below;
            }
            return ownRoot;
        }

        void bind(int root, int key, int value) {
            open(nodeAt(root, key, LEVELS - 1), key, LEVELS - 1, value);
        }

        /** Cuts off what the key alone has below the levels that its path keeps. */
        void cut(int root, int key, int levels) {
            if (levels <= 0) {
                return;
            }
            int node = nodeAt(root, key, levels - 1);
            ways[node][turnOf(key, levels - 1)] = NO_NODE;
            openTurns[node] &= ~bitOf(key, levels - 1);
        }

        void freeze() {
            for (int node = 0; node < fresh.length; node++) {
                fresh[node] = false;
            }
        }

        void unmarkAll() {
            for (int node = 0; node < marked.length; node++) {
                marked[node] = false;
            }
        }

        /** Marks the nodes of a map and answers how many of them were not marked before. */
        int mark(int root) {
            // Most maps share their root with one marked before, and so all that is below it.
            if (root == NO_NODE || marked[root]) {
                return 0;
            }
            int newlyMarked = 0;
            for (int key = 0; key < KEYS; key += TURNS) {
                for (int level = 0; level < LEVELS; level++) {
                    int node = nodeAt(root, key, level);
                    if (node != NO_NODE && !marked[node]) {
                        marked[node] = true;
                        newlyMarked++;
                    }
                }
            }
            return newlyMarked;
        }

        private int nodeAt(int root, int key, int level) {
            int node = root;
            for (int above = 0; above < level; above++) {
                node = ways[node][turnOf(key, above)];
            }
            return node;
        }

        private boolean holdsNothingElse(int root, int key, int level) {
            return openTurns[nodeAt(root, key, level)] == bitOf(key, level);
        }

        private void open(int node, int key, int level, int way) {
            ways[node][turnOf(key, level)] = way;
            openTurns[node] |= bitOf(key, level);
        }

        private int own(int node) {
            if (fresh[node]) {
                return node;
            }
            int made = takeUnmarked();
            System.arraycopy(ways[node], 0, ways[made], 0, TURNS);
            openTurns[made] = openTurns[node];
            fresh[made] = true;
            return made;
        }

        private int takeUnmarked() {
            int node = 1;
            while (node < NODES && marked[node]) {
                node++;
            }
            marked[node] = true;
            return node;
        }

        private static int turnOf(int key, int level) {
            return (key >> (2 * (LEVELS - 1 - level))) & (TURNS - 1);
        }

        private static int bitOf(int key, int level) {
            return 1 << turnOf(key, level);
        }
    }
}
