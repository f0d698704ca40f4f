import java.util.Arrays;

/**
 * Ways through a net of radios that come and go: a distance vector protocol whose numbers and
 * bounds keep the ways free of rings.
 */
public final class BabelMesh {
    public static final int NONE = -1;

    private static final int NODES = 12;
    private static final int GREATEST_COST = 1000;
    private static final int GREATEST_METRIC = 60000;
    private static final int FAR = 65535;
    private static final int NUMBER_MASK = 65535;
    private static final int NEWEST_LEAD = 32767;

    private static final int TELLING = 1;
    private static final int REQUEST = 2;
    private static final int FIRST_STEPS = 8;
    private static final int GREATEST_RUN = 500;

    private static final int KIND = 0;
    private static final int FROM = 1;
    private static final int TO = 2;
    private static final int DESTINATION = 3;
    private static final int NUMBER = 4;
    private static final int VALUE = 5;
    private static final int LETTER_FIELDS = 6;
    private static final int MOST_LETTERS = 300;

    private final Radio[] radios;
    private final LetterRow letters;

    public BabelMesh() {
        radios = new Radio[NODES];
        for (int node = 0; node < NODES; node++) {
            radios[node] = new Radio(node);
        }
        letters = new LetterRow();
    }

    public int link(int a, int b, int cost) throws IllegalArgumentException {
        requirePair(a, b);
        requireUpTo(cost, GREATEST_COST);
        int before = radios[a].linkCost[b];
        if (cost == before) {
            return before;
        }
        radios[a].linkCost[b] = cost;
        radios[b].linkCost[a] = cost;
        int lesser = Math.min(a, b);
        int greater = Math.max(a, b);
        if (before == 0) {
            tellEveryWay(lesser, greater);
            tellEveryWay(greater, lesser);
            return before;
        }
        if (cost == 0) {
            radios[a].forgetNeighbour(b);
            radios[b].forgetNeighbour(a);
        }
        chooseEverywhere(lesser);
        chooseEverywhere(greater);
        return before;
    }

    public int announce(int node) throws IllegalArgumentException {
        requireNode(node);
        int sentBefore = letters.sent;
        for (int destination = 0; destination < NODES; destination++) {
            if (radios[node].hasWay(destination) || radios[node].hasBound(destination)) {
                tellAll(node, destination);
            }
        }
        return letters.sent - sentBefore;
    }

    public int renew(int node) throws IllegalArgumentException {
        requireNode(node);
        int number = radios[node].raiseOwnNumber();
        tellAll(node, node);
        return number;
    }

    public int ask(int node, int destination) throws IllegalArgumentException {
        requirePair(node, destination);
        int sentBefore = letters.sent;
        if (!radios[node].hasWay(destination)) {
            askAll(node, destination);
        }
        return letters.sent - sentBefore;
    }

    public int reboot(int node) throws IllegalArgumentException, IllegalStateException {
        requireNode(node);
        if (radios[node].countLinks() != 0) {
            throw new IllegalStateException("the node has links");
        }
        radios[node].forgetBounds();
        return letters.loseAllOf(node);
    }

    public int deliver(int i) throws IllegalArgumentException {
        requireLetter(i);
        int sentBefore = letters.sent;
        handOver(i);
        return letters.sent - sentBefore;
    }

    public int run(int n) throws IllegalArgumentException {
        requireUpTo(n, GREATEST_RUN);
        int handed = 0;
        while (handed < n && letters.count > 0) {
            handOver(0);
            handed++;
        }
        return handed;
    }

    public int drop(int i) throws IllegalArgumentException {
        requireLetter(i);
        int kind = letters.read(i, KIND);
        letters.takeAway(i);
        return kind;
    }

    public boolean copy(int i) throws IllegalArgumentException {
        requireLetter(i);
        return letters.repeat(i);
    }

    public int letter(int i, int what) throws IllegalArgumentException {
        requireLetter(i);
        requireUpTo(what, VALUE);
        return letters.read(i, what);
    }

    public int way(int node, int destination, int what) throws IllegalArgumentException {
        requireNode(node);
        requireNode(destination);
        requireUpTo(what, 4);
        Radio radio = radios[node];
        switch (what) {
            case 0:
                return radio.chosen[destination];
            case 1:
                return radio.wayNumber[destination];
            case 2:
                return radio.wayMetric[destination];
            case 3:
                return radio.boundNumber[destination];
            default:
                return radio.boundMetric[destination];
        }
    }

    public int told(int node, int neighbour, int destination, int what) throws IllegalArgumentException {
        requirePair(node, neighbour);
        requirePair(node, destination);
        requireUpTo(what, 2);
        Radio radio = radios[node];
        int number = radio.toldNumber[neighbour][destination];
        int metric = radio.toldMetric[neighbour][destination];
        if (what == 0) {
            return number;
        }
        if (what == 1) {
            return metric;
        }
        return number != NONE && radio.isGood(destination, number, metric) ? 1 : 0;
    }

    public int trace(int node, int destination) throws IllegalArgumentException {
        requireNode(node);
        requireNode(destination);
        int at = node;
        for (int steps = 0; steps < NODES; steps++) {
            if (at == destination) {
                return steps;
            }
            at = radios[at].chosen[destination];
            if (at == NONE) {
                return NONE;
            }
        }
        return NONE;
    }

    public int cost(int a, int b) throws IllegalArgumentException {
        requirePair(a, b);
        return radios[a].linkCost[b];
    }

    public int total(int what) throws IllegalArgumentException {
        requireUpTo(what, 4);
        switch (what) {
            case 0:
                return letters.count;
            case 1:
                return letters.sent;
            case 2:
                return letters.lostForRoom;
            case 3:
                return letters.lostOnTheWay;
            default:
                return countAllLinks();
        }
    }

    private static void requireNode(int node) {
        if (node < 0 || node >= NODES) {
            throw new IllegalArgumentException("there is no such node");
        }
    }

    private static void requirePair(int a, int b) {
        requireNode(a);
        requireNode(b);
        if (a == b) {
            throw new IllegalArgumentException("both nodes are the same");
        }
    }

    private static void requireUpTo(int value, int greatest) {
        if (value < 0 || value > greatest) {
            throw new IllegalArgumentException("a number is not as it may be");
        }
    }

    private void requireLetter(int i) {
        if (i < 0 || i >= letters.count) {
            throw new IllegalArgumentException("there is no such letter");
        }
    }

    private static boolean isNewer(int a, int b) {
        int lead = (a - b) & NUMBER_MASK;
        return lead >= 1 && lead <= NEWEST_LEAD;
    }

    private static int nextNumber(int number) {
        return (number + 1) & NUMBER_MASK;
    }

    private int countAllLinks() {
        int ends = 0;
        for (int node = 0; node < NODES; node++) {
            ends += radios[node].countLinks();
        }
        return ends / 2;
    }

    /** It leaves the row first, so that what it brings about finds one more place there. */
    private void handOver(int i) {
        int kind = letters.read(i, KIND);
        int from = letters.read(i, FROM);
        int to = letters.read(i, TO);
        int destination = letters.read(i, DESTINATION);
        int number = letters.read(i, NUMBER);
        int value = letters.read(i, VALUE);
        letters.takeAway(i);
        if (radios[to].linkCost[from] == 0) {
            letters.lostOnTheWay++;
        } else if (kind == TELLING) {
            hearTelling(to, from, destination, number, value);
        } else {
            hearRequest(to, from, destination, number, value);
        }
    }

    private void hearTelling(int node, int from, int destination, int number, int metric) {
        if (destination == node) {
            return;
        }
        Radio radio = radios[node];
        // A worse word of the chosen neighbour is left aside: only FAR may end a way that is in use.
        boolean leftAside = radio.chosen[destination] == from
                && metric != FAR
                && !radio.isGood(destination, number, metric);
        if (!leftAside) {
            radio.toldNumber[from][destination] = number;
            radio.toldMetric[from][destination] = metric;
        }
        chooseAnew(node, destination);
    }

    private void hearRequest(int node, int from, int destination, int number, int steps) {
        Radio radio = radios[node];
        if (destination == node) {
            if (isNewer(number, radio.wayNumber[node])) {
                radio.raiseOwnNumber();
            }
            tellAll(node, node);
        } else if (radio.hasWay(destination) && !isNewer(number, radio.wayNumber[destination])) {
            tell(node, from, destination);
        } else if (steps > 1 && !radio.hasPassedOn(destination, number)) {
            radio.passedNumber[destination] = number;
            requestAll(node, from, destination, number, steps - 1);
        }
    }

    private void chooseEverywhere(int node) {
        for (int destination = 0; destination < NODES; destination++) {
            if (destination != node) {
                chooseAnew(node, destination);
            }
        }
    }

    private void chooseAnew(int node, int destination) {
        if (!radios[node].takeBestWay(destination)) {
            return;
        }
        tellAll(node, destination);
        // Something is another than it was: so if there is no way now, there was one.
        if (!radios[node].hasWay(destination)) {
            askAll(node, destination);
        }
    }

    private void tellEveryWay(int node, int neighbour) {
        for (int destination = 0; destination < NODES; destination++) {
            if (radios[node].hasWay(destination)) {
                tell(node, neighbour, destination);
            }
        }
    }

    private void tellAll(int node, int destination) {
        for (int neighbour = 0; neighbour < NODES; neighbour++) {
            if (radios[node].linkCost[neighbour] != 0) {
                tell(node, neighbour, destination);
            }
        }
    }

    private void tell(int node, int neighbour, int destination) {
        Radio radio = radios[node];
        if (!radio.hasWay(destination)) {
            int number = radio.hasBound(destination) ? radio.boundNumber[destination] : 0;
            letters.send(TELLING, node, neighbour, destination, number, FAR);
            return;
        }
        int number = radio.wayNumber[destination];
        int metric = radio.wayMetric[destination];
        // What betters the bound is just what would be good if a neighbour told it.
        if (destination != node && radio.isGood(destination, number, metric)) {
            radio.boundNumber[destination] = number;
            radio.boundMetric[destination] = metric;
        }
        letters.send(TELLING, node, neighbour, destination, number, metric);
    }

    private void askAll(int node, int destination) {
        Radio radio = radios[node];
        int number = radio.hasBound(destination) ? nextNumber(radio.boundNumber[destination]) : 0;
        requestAll(node, NONE, destination, number, FIRST_STEPS);
    }

    private void requestAll(int node, int except, int destination, int number, int steps) {
        for (int neighbour = 0; neighbour < NODES; neighbour++) {
            if (neighbour != except && radios[node].linkCost[neighbour] != 0) {
                letters.send(REQUEST, node, neighbour, destination, number, steps);
            }
        }
    }

    /**
     * What one node keeps. To itself it has a way as well, with its own number and metric 0: so it
     * is told and traced like any other.
     */
    private static final class Radio {
        final int[] linkCost = new int[NODES];
        final int[] boundNumber = new int[NODES];
        final int[] boundMetric = new int[NODES];
        final int[] chosen = new int[NODES];
        final int[] wayNumber = new int[NODES];
        final int[] wayMetric = new int[NODES];
        final int[] passedNumber = new int[NODES];
        final int[][] toldNumber = new int[NODES][NODES];
        final int[][] toldMetric = new int[NODES][NODES];
        final int self;

        Radio(int self) {
            this.self = self;
            Arrays.fill(boundNumber, NONE);
            Arrays.fill(boundMetric, NONE);
            Arrays.fill(chosen, NONE);
            Arrays.fill(wayNumber, NONE);
            Arrays.fill(wayMetric, NONE);
            Arrays.fill(passedNumber, NONE);
            for (int neighbour = 0; neighbour < NODES; neighbour++) {
                Arrays.fill(toldNumber[neighbour], NONE);
                Arrays.fill(toldMetric[neighbour], NONE);
            }
            chosen[self] = self;
            wayNumber[self] = 0;
            wayMetric[self] = 0;
        }

        boolean hasWay(int destination) {
            return chosen[destination] != NONE;
        }

        boolean hasBound(int destination) {
            return boundNumber[destination] != NONE;
        }

        boolean isGood(int destination, int number, int metric) {
            if (metric == FAR) {
                return false;
            }
            return boundNumber[destination] == NONE
                    || isNewer(number, boundNumber[destination])
                    || number == boundNumber[destination] && metric < boundMetric[destination];
        }

        /** Only newer numbers are passed on, so the last one that was stands for all before it. */
        boolean hasPassedOn(int destination, int number) {
            int passed = passedNumber[destination];
            return passed != NONE && (passed == number || isNewer(passed, number));
        }

        int raiseOwnNumber() {
            wayNumber[self] = nextNumber(wayNumber[self]);
            return wayNumber[self];
        }

        int countLinks() {
            int links = 0;
            for (int neighbour = 0; neighbour < NODES; neighbour++) {
                if (linkCost[neighbour] != 0) {
                    links++;
                }
            }
            return links;
        }

        void forgetNeighbour(int neighbour) {
            Arrays.fill(toldNumber[neighbour], NONE);
            Arrays.fill(toldMetric[neighbour], NONE);
        }

        void forgetBounds() {
            Arrays.fill(boundNumber, NONE);
            Arrays.fill(boundMetric, NONE);
            Arrays.fill(passedNumber, NONE);
        }

        /** Whether the neighbour, or its way, is another than it was. */
        boolean takeBestWay(int destination) {
            int best = findBestNeighbour(destination);
            int number = best == NONE ? NONE : toldNumber[best][destination];
            int metric = best == NONE ? NONE : toldMetric[best][destination] + linkCost[best];
            boolean another = best != chosen[destination]
                    || number != wayNumber[destination]
                    || metric != wayMetric[destination];
            chosen[destination] = best;
            wayNumber[destination] = number;
            wayMetric[destination] = metric;
            return another;
        }

        private int findBestNeighbour(int destination) {
            int best = NONE;
            int least = FAR;
            for (int neighbour = 0; neighbour < NODES; neighbour++) {
                int number = toldNumber[neighbour][destination];
                int metric = toldMetric[neighbour][destination];
                int sum = metric + linkCost[neighbour];
                if (number == NONE || sum > GREATEST_METRIC || !isGood(destination, number, metric)) {
                    continue;
                }
                if (sum < least || sum == least && neighbour == chosen[destination]) {
                    best = neighbour;
                    least = sum;
                }
            }
            return best;
        }
    }

    /** The letters under way. A ring, so that taking the first one moves no other. */
    private static final class LetterRow {
        final int[][] fields = new int[LETTER_FIELDS][MOST_LETTERS];
        int first;
        int count;
        int sent;
        int lostForRoom;
        int lostOnTheWay;

        private int placeOf(int i) {
            int place = first + i;
            return place >= MOST_LETTERS ? place - MOST_LETTERS : place;
        }

        int read(int i, int what) {
            return fields[what][placeOf(i)];
        }

        void send(int kind, int from, int to, int destination, int number, int value) {
            sent++;
            if (count >= MOST_LETTERS) {
                lostForRoom++;
                return;
            }
            int place = placeOf(count);
            fields[KIND][place] = kind;
            fields[FROM][place] = from;
            fields[TO][place] = to;
            fields[DESTINATION][place] = destination;
            fields[NUMBER][place] = number;
            fields[VALUE][place] = value;
            count++;
        }

        boolean repeat(int i) {
            if (count >= MOST_LETTERS) {
                return false;
            }
            put(i, count);
            count++;
            return true;
        }

        void takeAway(int i) {
            for (int k = i; k > 0; k--) {
                put(k - 1, k);
            }
            first = placeOf(1);
            count--;
        }

        int loseAllOf(int node) {
            int kept = 0;
            for (int i = 0; i < count; i++) {
                if (read(i, FROM) != node && read(i, TO) != node) {
                    put(i, kept);
                    kept++;
                }
            }
            int lost = count - kept;
            count = kept;
            lostOnTheWay += lost;
            return lost;
        }

        private void put(int i, int at) {
            int source = placeOf(i);
            int target = placeOf(at);
            for (int what = 0; what < LETTER_FIELDS; what++) {
                fields[what][target] = fields[what][source];
            }
        }
    }
}
