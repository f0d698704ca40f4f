import java.util.ArrayList;
import java.util.HashMap;
import java.util.List;
import java.util.Map;

/**
 * The document once more, written for plainness alone and held in another way than the class does:
 * ways are worked out anew at every look. The tests compare the two.
 */
final class Model {
    private static final int FAR = 65535;

    record Mark(int number, int metric) {
    }

    record Letter(int kind, int from, int to, int destination, int number, int value) {
    }

    private final int[][] costs = new int[12][12];
    private final int[] own = new int[12];
    private final Map<List<Integer>, Mark> told = new HashMap<>();
    private final Map<List<Integer>, Mark> bounds = new HashMap<>();
    private final Map<List<Integer>, Integer> chosen = new HashMap<>();
    private final Map<List<Integer>, List<Integer>> passed = new HashMap<>();
    private final List<Letter> row = new ArrayList<>();
    private int sent = 0;
    private int crowdedOut = 0;
    private int strayed = 0;

    /** The answer as a text, or the name of the exception. */
    String call(String name, int... x) {
        try {
            return String.valueOf(answer(name, x));
        } catch (IllegalArgumentException | IllegalStateException e) {
            return e.getClass().getSimpleName();
        }
    }

    private int answer(String name, int[] x) {
        int before = sent;
        switch (name) {
            case "link":
                need(isNode(x[0]) && isNode(x[1]) && x[0] != x[1] && x[2] >= 0 && x[2] <= 1000);
                return link(Math.min(x[0], x[1]), Math.max(x[0], x[1]), x[2]);
            case "announce":
                need(isNode(x[0]));
                for (int d = 0; d < 12; d++) {
                    if (wayOf(x[0], d) != null || bounds.containsKey(List.of(x[0], d))) {
                        tellAll(x[0], d);
                    }
                }
                return sent - before;
            case "renew":
                need(isNode(x[0]));
                own[x[0]] = (own[x[0]] + 1) % 65536;
                tellAll(x[0], x[0]);
                return own[x[0]];
            case "ask":
                need(isNode(x[0]) && isNode(x[1]) && x[0] != x[1]);
                if (wayOf(x[0], x[1]) == null) {
                    requestAll(x[0], x[1]);
                }
                return sent - before;
            case "reboot":
                need(isNode(x[0]));
                return reboot(x[0]);
            case "deliver":
                need(isLetter(x[0]));
                handOver(row.remove(x[0]));
                return sent - before;
            case "run":
                need(x[0] >= 0 && x[0] <= 500);
                int handed = 0;
                for (; handed < x[0] && !row.isEmpty(); handed++) {
                    handOver(row.remove(0));
                }
                return handed;
            case "drop":
                need(isLetter(x[0]));
                return row.remove(x[0]).kind();
            case "copy":
                need(isLetter(x[0]));
                return row.size() < 300 && row.add(row.get(x[0])) ? 1 : 0;
            default:
                return look(name, x);
        }
    }

    private int look(String name, int[] x) {
        switch (name) {
            case "letter":
                need(isLetter(x[0]) && x[1] >= 0 && x[1] <= 5);
                Letter l = row.get(x[0]);
                return new int[] {l.kind(), l.from(), l.to(), l.destination(), l.number(), l.value()}[x[1]];
            case "way":
                need(isNode(x[0]) && isNode(x[1]) && x[2] >= 0 && x[2] <= 4);
                Mark way = wayOf(x[0], x[1]);
                Mark bound = bounds.get(List.of(x[0], x[1]));
                if (x[2] == 0) {
                    return x[0] == x[1] ? x[0] : chosen.getOrDefault(List.of(x[0], x[1]), -1);
                }
                return part(x[2] <= 2 ? way : bound, x[2] == 1 || x[2] == 3);
            case "told":
                need(isNode(x[0]) && isNode(x[1]) && isNode(x[2]) && x[0] != x[1] && x[0] != x[2]);
                need(x[3] >= 0 && x[3] <= 2);
                Mark mark = told.get(List.of(x[0], x[1], x[2]));
                return x[3] == 2 ? (isGood(x[0], x[2], mark) ? 1 : 0) : part(mark, x[3] == 0);
            case "trace":
                need(isNode(x[0]) && isNode(x[1]));
                return trace(x[0], x[1]);
            case "cost":
                need(isNode(x[0]) && isNode(x[1]) && x[0] != x[1]);
                return costs[x[0]][x[1]];
            default:
                need(name.equals("total") && x[0] >= 0 && x[0] <= 4);
                return new int[] {row.size(), sent, crowdedOut, strayed, links()}[x[0]];
        }
    }

    private static void need(boolean holds) {
        if (!holds) {
            throw new IllegalArgumentException();
        }
    }

    private static boolean isNode(int node) {
        return node >= 0 && node <= 11;
    }

    private boolean isLetter(int i) {
        return i >= 0 && i < row.size();
    }

    private static int part(Mark mark, boolean number) {
        return mark == null ? -1 : number ? mark.number() : mark.metric();
    }

    private static boolean newer(int a, int b) {
        int ahead = Math.floorMod(a - b, 65536);
        return 1 <= ahead && ahead <= 32767;
    }

    private boolean isGood(int node, int destination, Mark mark) {
        Mark bound = bounds.get(List.of(node, destination));
        return mark != null && mark.metric() != FAR && betters(mark, bound);
    }

    private static boolean betters(Mark mark, Mark bound) {
        return bound == null || newer(mark.number(), bound.number())
                || mark.number() == bound.number() && mark.metric() < bound.metric();
    }

    private int links() {
        int links = 0;
        for (int a = 0; a < 12; a++) {
            for (int b = 0; b < a; b++) {
                links += costs[a][b] > 0 ? 1 : 0;
            }
        }
        return links;
    }

    private List<Integer> neighbours(int node) {
        List<Integer> found = new ArrayList<>();
        for (int other = 0; other < 12; other++) {
            if (costs[node][other] > 0) {
                found.add(other);
            }
        }
        return found;
    }

    private Mark wayOver(int node, int neighbour, int destination) {
        Mark mark = told.get(List.of(node, neighbour, destination));
        int sum = mark.metric() + costs[node][neighbour];
        return new Mark(mark.number(), sum > 60000 ? FAR : sum);
    }

    private Mark wayOf(int node, int destination) {
        if (node == destination) {
            return new Mark(own[node], 0);
        }
        Integer over = chosen.get(List.of(node, destination));
        return over == null ? null : wayOver(node, over, destination);
    }

    private int trace(int node, int destination) {
        int steps = 0;
        for (Integer at = node; at != null; at = chosen.get(List.of(at, destination))) {
            if (at == destination) {
                return steps;
            }
            if (++steps > 12) {
                throw new AssertionError("the ways go round in a ring");
            }
        }
        return -1;
    }

    private void send(Letter letter) {
        sent++;
        if (row.size() == 300) {
            crowdedOut++;
        } else {
            row.add(letter);
        }
    }

    private void tell(int node, int neighbour, int destination) {
        Mark mark = wayOf(node, destination);
        Mark bound = bounds.get(List.of(node, destination));
        if (mark == null) {
            mark = new Mark(bound == null ? 0 : bound.number(), FAR);
        } else if (node != destination && betters(mark, bound)) {
            bounds.put(List.of(node, destination), mark);
        }
        send(new Letter(1, node, neighbour, destination, mark.number(), mark.metric()));
    }

    private void tellAll(int node, int destination) {
        for (int neighbour : neighbours(node)) {
            tell(node, neighbour, destination);
        }
    }

    private void requestAll(int node, int destination) {
        Mark bound = bounds.get(List.of(node, destination));
        int number = bound == null ? 0 : (bound.number() + 1) % 65536;
        for (int neighbour : neighbours(node)) {
            send(new Letter(2, node, neighbour, destination, number, 8));
        }
    }

    private List<Mark> waysOf(int node) {
        List<Mark> ways = new ArrayList<>();
        for (int destination = 0; destination < 12; destination++) {
            ways.add(wayOf(node, destination));
        }
        return ways;
    }

    private int link(int a, int b, int cost) {
        int before = costs[a][b];
        List<Mark> waysOfA = waysOf(a);
        List<Mark> waysOfB = waysOf(b);
        costs[a][b] = cost;
        costs[b][a] = cost;
        if (before == 0 && cost != 0) {
            tellWhatIsKnown(a, b);
            tellWhatIsKnown(b, a);
        } else if (before != cost) {
            if (cost == 0) {
                told.keySet().removeIf(key -> key.subList(0, 2).equals(List.of(a, b)));
                told.keySet().removeIf(key -> key.subList(0, 2).equals(List.of(b, a)));
            }
            chooseAll(a, waysOfA);
            chooseAll(b, waysOfB);
        }
        return before;
    }

    private void tellWhatIsKnown(int node, int neighbour) {
        for (int destination = 0; destination < 12; destination++) {
            if (wayOf(node, destination) != null) {
                tell(node, neighbour, destination);
            }
        }
    }

    private void chooseAll(int node, List<Mark> waysBefore) {
        for (int destination = 0; destination < 12; destination++) {
            if (destination != node) {
                choose(node, destination, waysBefore.get(destination));
            }
        }
    }

    private void choose(int node, int destination, Mark wayBefore) {
        Integer before = chosen.get(List.of(node, destination));
        List<Integer> nearest = new ArrayList<>();
        int least = FAR;
        for (int neighbour : neighbours(node)) {
            if (!isGood(node, destination, told.get(List.of(node, neighbour, destination)))) {
                continue;
            }
            int metric = wayOver(node, neighbour, destination).metric();
            if (metric < least) {
                nearest.clear();
                least = metric;
            }
            if (metric == least && metric != FAR) {
                nearest.add(neighbour);
            }
        }
        if (nearest.isEmpty()) {
            chosen.remove(List.of(node, destination));
            if (before != null) {
                tellAll(node, destination);
                requestAll(node, destination);
            }
            return;
        }
        Integer now = nearest.contains(before) ? before : nearest.get(0);
        chosen.put(List.of(node, destination), now);
        if (!now.equals(before) || !wayOf(node, destination).equals(wayBefore)) {
            tellAll(node, destination);
        }
    }

    private int reboot(int node) {
        if (!neighbours(node).isEmpty()) {
            throw new IllegalStateException();
        }
        int size = row.size();
        row.removeIf(letter -> letter.from() == node || letter.to() == node);
        bounds.keySet().removeIf(key -> key.get(0) == node);
        passed.keySet().removeIf(key -> key.get(0) == node);
        strayed += size - row.size();
        return size - row.size();
    }

    private void handOver(Letter letter) {
        if (costs[letter.from()][letter.to()] == 0) {
            strayed++;
        } else if (letter.kind() == 2) {
            answerRequest(letter);
        } else if (letter.to() != letter.destination()) {
            Mark before = wayOf(letter.to(), letter.destination());
            Mark mark = new Mark(letter.number(), letter.value());
            boolean isChosen = Integer.valueOf(letter.from()).equals(
                    chosen.get(List.of(letter.to(), letter.destination())));
            if (!isChosen || mark.metric() == FAR || isGood(letter.to(), letter.destination(), mark)) {
                told.put(List.of(letter.to(), letter.from(), letter.destination()), mark);
            }
            choose(letter.to(), letter.destination(), before);
        }
    }

    private void answerRequest(Letter request) {
        int node = request.to();
        int destination = request.destination();
        Mark way = wayOf(node, destination);
        List<Integer> before = passed.computeIfAbsent(List.of(node, destination), key -> new ArrayList<>());
        if (node == destination) {
            if (newer(request.number(), own[node])) {
                own[node] = (own[node] + 1) % 65536;
            }
            tellAll(node, node);
        } else if (way != null && !newer(request.number(), way.number())) {
            tell(node, request.from(), destination);
        } else if (request.value() > 1
                && before.stream().noneMatch(p -> p == request.number() || newer(p, request.number()))) {
            before.add(request.number());
            for (int neighbour : neighbours(node)) {
                if (neighbour != request.from()) {
                    send(new Letter(2, node, neighbour, destination, request.number(), request.value() - 1));
                }
            }
        }
    }
}
