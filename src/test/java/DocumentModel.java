import java.util.ArrayList;
import java.util.HashSet;
import java.util.List;
import java.util.Map;
import java.util.NoSuchElementException;
import java.util.Set;
import java.util.TreeMap;

/**
 * The document's terms taken word by word: a map is its bindings and, for each place of the tree,
 * the number of the node there; numbers are never used again. Held quite unlike the program, so
 * that both are not wrong in the same way.
 */
final class DocumentModel {
    private record Tree(TreeMap<Integer, Integer> bindings, TreeMap<String, Integer> nodes) {
        Tree() {
            this(new TreeMap<>(), new TreeMap<>());
        }

        Tree copy() {
            return new Tree(new TreeMap<>(bindings), new TreeMap<>(nodes));
        }
    }

    private TreeMap<Integer, Tree> maps = new TreeMap<>(Map.of(0, new Tree()));
    private TreeMap<Integer, Tree> disk = new TreeMap<>(Map.of(0, new Tree()));
    private int latestNode = 0;
    private int latestFrozenNode = 0;
    private boolean down = false;
    private int writes = 0;
    private Integer ordered = null;

    String answer(Call call) {
        try {
            return String.valueOf(answerOf(call));
        } catch (RuntimeException e) {
            return "throws." + e.getClass().getSimpleName();
        }
    }

    private Object answerOf(Call call) {
        switch (call.name()) {
            case "order": return order(call.at(0));
            case "recover": return recover();
            case "writes": return writes;
            case "down": return down;
            default: break;
        }
        if (down) {
            throw new IllegalStateException();
        }
        return switch (call.name()) {
            case "put" -> put(call.at(0), call.at(1));
            case "remove" -> remove(call.at(0));
            case "get" -> bound(map(call.at(0)), call.at(1));
            case "next" -> next(map(call.at(0)), call.at(1));
            case "count" -> map(call.at(0)).bindings().size();
            case "nodes" -> map(call.at(0)).nodes().size();
            case "shared" -> shared(map(call.at(0)), map(call.at(1)));
            case "differ" -> differ(map(call.at(0)), map(call.at(1)));
            case "snapshot" -> snapshot();
            case "rollback" -> rollback(call.at(0));
            case "drop" -> drop(call.at(0));
            case "commit" -> commit();
            case "free" -> free();
            case "due" -> due();
            default -> throw new AssertionError("no such call: " + call.name());
        };
    }

    private int put(int key, int value) {
        if (key < 0 || key > 63) {
            throw new IllegalArgumentException();
        }
        Integer old = maps.get(0).bindings().get(key);
        if (old != null && old == value) {
            return 2;
        }
        Tree after = maps.get(0).copy();
        after.bindings().put(key, value);
        change(after, key);
        return old == null ? 0 : 1;
    }

    private int remove(int key) {
        int value = bound(maps.get(0), key);
        Tree after = maps.get(0).copy();
        after.bindings().remove(key);
        change(after, key);
        return value;
    }

    private void change(Tree after, int key) {
        Set<String> due = placesOf(after.bindings().keySet());
        after.nodes().keySet().retainAll(due);
        int node = latestNode;
        for (String place : path(key)) {
            if (due.contains(place) && after.nodes().getOrDefault(place, 0) <= latestFrozenNode) {
                node++;
                after.nodes().put(place, node);
            }
        }
        if (node - latestNode > free()) {
            throw new UnsupportedOperationException();
        }
        latestNode = node;
        maps.put(0, after);
    }

    private static List<String> path(int key) {
        return List.of("0", "1:" + key / 16, "2:" + key / 4);
    }

    private static Set<String> placesOf(Set<Integer> keys) {
        Set<String> places = new HashSet<>();
        for (int key : keys) {
            places.addAll(path(key));
        }
        return places;
    }

    private Tree map(int handle) {
        if (!maps.containsKey(handle)) {
            throw new IllegalArgumentException();
        }
        return maps.get(handle);
    }

    private static int bound(Tree map, int key) {
        if (!map.bindings().containsKey(key)) {
            throw new NoSuchElementException();
        }
        return map.bindings().get(key);
    }

    private static int next(Tree map, int from) {
        Integer key = map.bindings().ceilingKey(from);
        return key == null ? -1 : key;
    }

    private static int shared(Tree a, Tree b) {
        Set<Integer> both = new HashSet<>(a.nodes().values());
        both.retainAll(b.nodes().values());
        return both.size();
    }

    private static int differ(Tree a, Tree b) {
        Set<Map.Entry<Integer, Integer>> alike = new HashSet<>(a.bindings().entrySet());
        alike.retainAll(b.bindings().entrySet());
        Set<Integer> keys = new HashSet<>(a.bindings().keySet());
        keys.addAll(b.bindings().keySet());
        return keys.size() - alike.size();
    }

    private int snapshot() {
        for (int handle = 1; handle <= 6; handle++) {
            if (!maps.containsKey(handle)) {
                maps.put(handle, maps.get(0));
                latestFrozenNode = latestNode;
                return handle;
            }
        }
        throw new UnsupportedOperationException();
    }

    private int rollback(int handle) {
        maps.put(0, existingSnapshot(handle));
        return maps.get(0).bindings().size();
    }

    private int drop(int handle) {
        existingSnapshot(handle);
        int before = free();
        maps.remove(handle);
        return free() - before;
    }

    private Tree existingSnapshot(int handle) {
        if (handle == 0) {
            throw new IllegalArgumentException();
        }
        return map(handle);
    }

    private int commit() {
        int needed = due();
        for (int write = 0; write < needed; write++) {
            if (ordered != null && ordered == 0) {
                ordered = null;
                down = true;
                throw new IllegalStateException();
            }
            if (ordered != null) {
                ordered--;
            }
            writes++;
        }
        disk = new TreeMap<>(maps);
        latestFrozenNode = latestNode;
        return needed;
    }

    private int free() {
        Set<Integer> used = nodesOf(maps);
        used.addAll(nodesOf(disk));
        return 60 - used.size();
    }

    private int due() {
        Set<Integer> unwritten = nodesOf(maps);
        unwritten.removeAll(nodesOf(disk));
        return unwritten.size() + 1;
    }

    private static Set<Integer> nodesOf(TreeMap<Integer, Tree> maps) {
        List<Integer> nodes = new ArrayList<>();
        maps.values().forEach(map -> nodes.addAll(map.nodes().values()));
        return new HashSet<>(nodes);
    }

    private boolean order(int n) {
        if (n < 0 || n > 100) {
            return false;
        }
        ordered = n;
        return true;
    }

    private int recover() {
        if (!down) {
            return -1;
        }
        maps = new TreeMap<>(disk);
        down = false;
        return maps.size() - 1;
    }
}
