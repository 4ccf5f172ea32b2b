/** Signals sighted along a line; what each call promises stands in the document DOC.md. */
public final class SignalsSighted {

    private static final int MOST_CELLS = 24;
    private static final int LEAST_CELLS = 2;
    private static final int MOST_GROUND = 30;
    private static final int FLAT_GROUND = 10;
    private static final int MOST_BRIDGES = 4;
    private static final int MOST_HEIGHT = 60;
    private static final int MOST_POSTS = 5;
    private static final int MOST_TALL = 15;
    private static final int MOST_TRAINS = 4;
    private static final int MOST_FIGURE = 9;
    private static final int MOST_SLOW = 9;
    private static final int MOST_NEED = 99;
    private static final int MOST_PLACES = 8;
    private static final int LONGEST_NAME = 7;
    private static final int MOST_LETTERS = 120;
    private static final int MOST_SIGN = 255;
    private static final int SHELVES = 4;
    private static final int LONGEST_ROW = 20;
    private static final int LONGEST_STRETCH = 8;
    private static final int MOST_ODDS = 20;
    private static final int MOST_LOTS = 20;

    private static final int KINDS = 6;
    private static final int FREIGHT = 1;
    private static final int EXPRESS = 2;
    private static final int TANK = 3;
    private static final int MAIL = 4;
    private static final int PUSHED = 5;

    private static final int NOBODY = -1;
    private static final int OTHER = -2;
    private static final int STATE = -3;
    private static final int BELOW = -4;
    private static final int ROOM = -6;
    private static final int NONE = -9;
    private static final int NOTHING_THERE = -11;
    private static final int ANOTHER_SORT = -12;
    private static final int NO_SUCH_PLACE = -13;
    private static final int SIZE_BELOW = -14;
    private static final int REFUSAL_NUMBERS = 6;
    private static final long REFUSED_LONG = 4000000000000000000L;

    private static final int FORM_FAULT = -1000;
    private static final int SENSE_FAULT = -2000;

    private final Line line = new Line();
    private final Line kept = new Line();
    private final Line trial = new Line();
    private boolean imageTaken = false;
    private final Letters letters = new Letters();
    private final Shelf[] shelves = new Shelf[SHELVES];
    private final Moves moves = new Moves();
    private final Train guess = new Train();
    private final int[] refusals = new int[REFUSAL_NUMBERS + 1];

    public SignalsSighted() {
        for (int i = 0; i < SHELVES; i++) {
            shelves[i] = new Shelf();
        }
    }

    // ---- the line

    public int letter(int c) {
        return counted(letters.add(c));
    }

    public int tells() {
        int answer = hearStatements();
        letters.clear();
        return answer;
    }

    public int cells(int n) {
        return counted(line.resize(n));
    }

    public int ground(int cell, int v) {
        return counted(line.setGround(cell, v));
    }

    public int bridge(int cell, int low, int high) {
        return counted(line.addBridge(cell, low, high));
    }

    public int fells(int bridge) {
        if (!line.hasBridge(bridge)) {
            return refused(NOBODY);
        }
        line.removeBridge(bridge);
        return line.bridgeCount;
    }

    public int post(int cell, int tall) {
        return counted(line.addPost(cell, tall));
    }

    public int sets(int post, int cell, int tall) {
        return counted(line.setPost(post, cell, tall));
    }

    public int train(int kind, int figure, int slow, int way) {
        return counted(line.addTrain(kind, figure, slow, way));
    }

    public int need(int v) {
        return counted(line.setNeed(v));
    }

    public int ofBridge(int bridge, int what) {
        if (!line.hasBridge(bridge)) {
            return refused(NOBODY);
        }
        switch (what) {
            case 0: return line.bridgeCell[bridge];
            case 1: return line.low[bridge];
            case 2: return line.high[bridge];
            default: return refused(OTHER);
        }
    }

    public int ofPost(int post, int what) {
        if (!line.hasPost(post)) {
            return refused(NOBODY);
        }
        switch (what) {
            case 0: return line.postCell[post];
            case 1: return line.tall[post];
            default: return refused(OTHER);
        }
    }

    public int ofTrain(int train, int what) {
        if (!line.hasTrain(train)) {
            return refused(NOBODY);
        }
        Train told = line.trains[train];
        switch (what) {
            case 0: return told.kind;
            case 1: return told.figure;
            case 2: return told.slow;
            case 3: return told.way;
            case 4: return told.eye();
            default: return refused(OTHER);
        }
    }

    public int height(int cell) {
        if (!line.hasCell(cell)) {
            return refused(NOBODY);
        }
        return line.ground[cell];
    }

    public int time(int train, int cell) {
        if (!line.hasTrain(train) || !line.hasCell(cell)) {
            return refused(NOBODY);
        }
        return line.timeIn(line.trains[train], cell, line.allBridges());
    }

    // ---- sight

    public int sight(int a, int heightA, int b, int heightB) {
        if (!line.hasCell(a) || !line.hasCell(b) || a == b) {
            return refused(NOBODY);
        }
        if (heightA < 0 || heightB < 0) {
            return refused(BELOW);
        }
        if (heightA > MOST_HEIGHT || heightB > MOST_HEIGHT) {
            return refused(ROOM);
        }
        return oneIf(line.isClear(a, heightA, b, heightB, line.allBridges()));
    }

    public int sees(int train, int post, int cell) {
        if (!line.hasTrain(train) || !line.hasPost(post) || !line.hasCell(cell)) {
            return refused(NOBODY);
        }
        return oneIf(line.seesPost(line.trains[train], post, cell, line.allBridges()));
    }

    public int first(int train, int post) {
        if (!line.hasTrain(train) || !line.hasPost(post)) {
            return refused(NOBODY);
        }
        return line.firstCell(line.trains[train], line.postCell[post], line.tall[post], line.allBridges());
    }

    public int warned(int train, int post) {
        if (!line.hasTrain(train) || !line.hasPost(post)) {
            return refused(NOBODY);
        }
        return line.warningOf(line.trains[train], post, line.allBridges());
    }

    public int safe() {
        return oneIf(line.isSafe(line.allBridges()));
    }

    // ---- what is best

    public int moved(int post) {
        if (post != -1 && !line.hasPost(post)) {
            return refused(NOBODY);
        }
        return moves.answer(line, post);
    }

    public int raised(int post) {
        if (!line.hasPost(post)) {
            return refused(NOBODY);
        }
        for (int tall = 0; tall <= MOST_TALL; tall++) {
            if (line.keepsAll(line.postCell[post], tall)) {
                return tall;
            }
        }
        return NONE;
    }

    public long freed(int bridge) {
        if (!line.hasBridge(bridge)) {
            return refusedLong(NOBODY);
        }
        int all = line.allBridges();
        return line.keptPairs(all & ~(1 << bridge)) - line.keptPairs(all);
    }

    public int worst() {
        int least = 0;
        int answer = NONE;
        for (int p = 0; p < line.postCount; p++) {
            for (int t = 0; t < line.trainCount; t++) {
                int warning = line.warningOf(line.trains[t], p, line.allBridges());
                if (answer == NONE || warning < least) {
                    least = warning;
                    answer = 10 * p + t;
                }
            }
        }
        return answer;
    }

    public int slowest(int train, int post) {
        if (!line.hasTrain(train) || !line.hasPost(post)) {
            return refused(NOBODY);
        }
        guess.copyFrom(line.trains[train]);
        for (int slow = 1; slow <= MOST_SLOW; slow++) {
            guess.slow = slow;
            if (line.warningOf(guess, post, line.allBridges()) >= line.need) {
                return slow;
            }
        }
        return NONE;
    }

    public int atOnce(int train, int cell) {
        if (!line.hasTrain(train) || !line.hasCell(cell)) {
            return refused(NOBODY);
        }
        return line.postsSeen(line.trains[train], cell);
    }

    public int most(int train, int what) {
        if (!line.hasTrain(train)) {
            return refused(NOBODY);
        }
        switch (what) {
            case 0: return line.cellOfMost(line.trains[train]);
            case 1: return line.blindCells(line.trains[train]);
            default: return refused(OTHER);
        }
    }

    public int nearest(int train, int cell) {
        if (!line.hasTrain(train) || !line.hasCell(cell)) {
            return refused(NOBODY);
        }
        int least = MOST_CELLS;
        int answer = NONE;
        for (int p = 0; p < line.postCount; p++) {
            int far = Math.abs(line.postCell[p] - cell);
            if (far < least && line.seesPost(line.trains[train], p, cell, line.allBridges())) {
                least = far;
                answer = p;
            }
        }
        return answer;
    }

    public int shadow(int bridge, int train, int post) {
        if (!line.hasBridge(bridge) || !line.hasTrain(train) || !line.hasPost(post)) {
            return refused(NOBODY);
        }
        Train looking = line.trains[train];
        int all = line.allBridges();
        int bits = 0;
        for (int c = 0; c < line.cells; c++) {
            if (line.seesPost(looking, post, c, all & ~(1 << bridge)) && !line.seesPost(looking, post, c, all)) {
                bits |= 1 << c;
            }
        }
        return bits;
    }

    public int alike(int n, int what) {
        if (n < 1) {
            return refused(BELOW);
        }
        if (n > LONGEST_STRETCH || n > line.cells) {
            return refused(ROOM);
        }
        switch (what) {
            case 0: return line.unlikeStretches(n);
            case 1: return line.firstRepeated(n);
            default: return refused(OTHER);
        }
    }

    public int steepest(int n) {
        if (n < 2) {
            return refused(BELOW);
        }
        if (n > LONGEST_STRETCH || n > line.cells) {
            return refused(ROOM);
        }
        int answer = 0;
        int most = -1;
        for (int c = 0; c + n <= line.cells; c++) {
            int differs = Math.abs(line.ground[c + n - 1] - line.ground[c]);
            if (differs > most) {
                most = differs;
                answer = c;
            }
        }
        return answer;
    }

    public long down(int t, int part) {
        if (t < 2) {
            return refusedLong(BELOW);
        }
        if (t > MOST_ODDS) {
            return refusedLong(ROOM);
        }
        if (part != 0 && part != 1) {
            return refusedLong(OTHER);
        }
        return partOf(safeWays(t), power(t, line.bridgeCount), part);
    }

    public long mean(int part) {
        if (part != 0 && part != 1) {
            return refusedLong(OTHER);
        }
        return partOf(line.allWarnings(), line.postCount * line.trainCount, part);
    }

    // ---- places, shelves, lots

    public int name(int k, int i) {
        if (!line.places.has(k) || i < -1 || i >= line.places.lengths[k]) {
            return refused(NOBODY);
        }
        return i == -1 ? line.places.lengths[k] : line.places.letterOf(k, i);
    }

    public int placeAt(int k) {
        if (!line.places.has(k)) {
            return refused(NOBODY);
        }
        return line.places.where[k];
    }

    public int shelf(int shelf, int sort, int n) {
        if (!hasShelf(shelf)) {
            return refused(NOBODY);
        }
        if (sort != Shelf.NOTHING && sort != Shelf.BYTES && sort != Shelf.LONGS) {
            return refused(OTHER);
        }
        if (sort == Shelf.NOTHING) {
            shelves[shelf].becomeRow(sort, 0);
            return 1;
        }
        if (n > LONGEST_ROW) {
            return refused(ROOM);
        }
        if (n < 0) {
            return SIZE_BELOW;
        }
        shelves[shelf].becomeRow(sort, n);
        return 1;
    }

    public int lay(int shelf, int train) {
        if (!hasShelf(shelf) || !line.hasTrain(train)) {
            return refused(NOBODY);
        }
        shelves[shelf].takeTrain(line.trains[train]);
        return 1;
    }

    public int put(int shelf, int i, long v) {
        if (!hasShelf(shelf)) {
            return refused(NOBODY);
        }
        int fault = shelves[shelf].faultOfPlace(i);
        if (fault < 0) {
            return fault;
        }
        shelves[shelf].write(i, v);
        return 1;
    }

    public long look(int shelf, int i) {
        if (!hasShelf(shelf)) {
            return refusedLong(NOBODY);
        }
        int fault = shelves[shelf].faultOfPlace(i);
        if (fault < 0) {
            return REFUSED_LONG - fault;
        }
        return shelves[shelf].row[i];
    }

    public int taken(int shelf, int kind) {
        if (!hasShelf(shelf)) {
            return refused(NOBODY);
        }
        if (kind < 0 || kind >= KINDS) {
            return refused(OTHER);
        }
        Shelf holder = shelves[shelf];
        if (holder.sort == Shelf.NOTHING) {
            return NOTHING_THERE;
        }
        if (holder.sort != Shelf.TRAIN || !holder.train.isOf(kind)) {
            return ANOTHER_SORT;
        }
        return holder.train.eye();
    }

    public int whatIs(int shelf, int train, int what) {
        if (!hasShelf(shelf) || !line.hasTrain(train)) {
            return refused(NOBODY);
        }
        if (what != 0 && what != 1) {
            return refused(OTHER);
        }
        int fault = shelves[shelf].faultOfSort(Shelf.BYTES);
        if (fault < 0) {
            return fault;
        }
        guess.copyFrom(line.trains[train]);
        return what == 0 ? kindsThatFit(shelves[shelf]) : figuresThatFit(shelves[shelf]);
    }

    public int judge(int shelf, int train) {
        if (!hasShelf(shelf) || !line.hasTrain(train)) {
            return refused(NOBODY);
        }
        Shelf told = shelves[shelf];
        int fault = told.faultOfSort(Shelf.LONGS);
        if (fault < 0) {
            return fault;
        }
        for (int p = 0; p < told.size; p++) {
            if (!line.hasPost(p) || line.warningOf(line.trains[train], p, line.allBridges()) != told.row[p]) {
                return p;
            }
        }
        return NONE;
    }

    public int lots(int n, int z, int what) {
        if (n < 1) {
            return refused(BELOW);
        }
        if (n > MOST_LOTS) {
            return refused(ROOM);
        }
        if (what != 0 && what != 1) {
            return refused(OTHER);
        }
        trial.copyFrom(line);
        int seed = z;
        int sum = 0;
        for (int i = 0; i < n; i++) {
            seed = trial.drawGround(seed);
            sum += what == 0 ? oneIf(trial.isSafe(trial.allBridges())) : trial.allWarnings();
        }
        return sum;
    }

    // ---- the image, what is told

    public int image() {
        kept.copyFrom(line);
        imageTaken = true;
        return line.postCount;
    }

    public int on() {
        if (!imageTaken) {
            return refused(STATE);
        }
        line.copyFrom(kept);
        return line.postCount;
    }

    public int count(int what) {
        if (what > 10 && what <= 10 + REFUSAL_NUMBERS) {
            return refusals[what - 10];
        }
        switch (what) {
            case 0: return line.cells;
            case 1: return line.bridgeCount;
            case 2: return line.postCount;
            case 3: return line.trainCount;
            case 4: return line.need;
            case 5: return line.places.size;
            case 6: return letters.size;
            case 7: return line.keptPairs(line.allBridges());
            default: return NONE;
        }
    }

    // ---- what the calls share

    private int refused(int number) {
        if (number < 0 && number >= -REFUSAL_NUMBERS) {
            refusals[-number]++;
        }
        return number;
    }

    private long refusedLong(int number) {
        return REFUSED_LONG - refused(number);
    }

    /** A change of the line answers a number below 0 only if it is refused. */
    private int counted(int answer) {
        return answer < 0 ? refused(answer) : answer;
    }

    private static int oneIf(boolean so) {
        return so ? 1 : 0;
    }

    private static boolean hasShelf(int shelf) {
        return shelf >= 0 && shelf < SHELVES;
    }

    /** Statements come to a trial of the line first, so that with a fault nothing has come. */
    private int hearStatements() {
        int fault = letters.faultOfForm();
        if (fault >= 0) {
            return FORM_FAULT - fault;
        }
        trial.copyFrom(line);
        letters.rewind();
        int told = 0;
        for (int i = 0; i < MOST_LETTERS && letters.hasMore(); i++) {
            int begin = letters.at;
            if (!letters.readStatement() || letters.sayTo(trial) < 0) {
                return SENSE_FAULT - begin;
            }
            told++;
        }
        line.copyFrom(trial);
        return told;
    }

    /** Of all ways in which the bridges may stand or not, weighed by t, those that are safe. */
    private int safeWays(int t) {
        int ways = 0;
        int all = line.allBridges();
        for (int there = 0; there <= all; there++) {
            if (line.isSafe(there)) {
                ways += power(t - 1, Integer.bitCount(there));
            }
        }
        return ways;
    }

    private static int power(int base, int times) {
        int product = 1;
        for (int i = 0; i < times; i++) {
            product *= base;
        }
        return product;
    }

    /** One part of a fraction in least terms; nothing above or below the line is 0 by 1. */
    private static long partOf(int above, int below, int part) {
        int divisor = commonDivisor(above, below);
        if (above == 0 || below == 0 || divisor == 0) {
            return part == 0 ? 0 : 1;
        }
        return part == 0 ? above / divisor : below / divisor;
    }

    private static int commonDivisor(int a, int b) {
        int greater = a;
        int less = b;
        for (int i = 0; i < 1000 && less != 0; i++) {
            int rest = greater % less;
            greater = less;
            less = rest;
        }
        return greater;
    }

    private int kindsThatFit(Shelf told) {
        int bits = 0;
        for (int kind = 0; kind < KINDS; kind++) {
            guess.kind = kind;
            if (timesFit(told)) {
                bits |= 1 << kind;
            }
        }
        return bits;
    }

    private int figuresThatFit(Shelf told) {
        int bits = 0;
        for (int figure = 0; figure <= MOST_FIGURE; figure++) {
            guess.figure = figure;
            if (timesFit(told)) {
                bits |= 1 << figure;
            }
        }
        return bits;
    }

    private boolean timesFit(Shelf told) {
        for (int c = 0; c < told.size && c < line.cells; c++) {
            if (line.timeIn(guess, c, line.allBridges()) != told.row[c]) {
                return false;
            }
        }
        return true;
    }

    /** A train of a kind; guesses change single fields of a copy. */
    private static final class Train {
        private static final int[] KIND_ABOVE = {-1, 0, 0, FREIGHT, EXPRESS, FREIGHT};

        int kind = 0;
        int figure = 0;
        int slow = 1;
        int way = 0;

        void copyFrom(Train other) {
            kind = other.kind;
            figure = other.figure;
            slow = other.slow;
            way = other.way;
        }

        int eye() {
            switch (kind) {
                case FREIGHT: return 4;
                case EXPRESS: return 2;
                case TANK: return 5;
                case MAIL: return 2 + figure;
                case PUSHED: return 0;
                default: return 3;
            }
        }

        int timeFor(int rise, boolean underBridge) {
            int half = (slow + 1) / 2;
            switch (kind) {
                case FREIGHT: return slow + rise;
                case EXPRESS: return half;
                case TANK: return slow + rise + (underBridge ? figure : 0);
                case MAIL: return Math.max(1, half - 1);
                case PUSHED: return 2 * (slow + rise);
                default: return slow;
            }
        }

        int step() {
            return way == 0 ? 1 : -1;
        }

        /** Whether it is of a kind or of one under it. */
        boolean isOf(int wanted) {
            int k = kind;
            for (int i = 0; i < KINDS && k >= 0 && k < KINDS; i++) {
                if (k == wanted) {
                    return true;
                }
                k = KIND_ABOVE[k];
            }
            return false;
        }
    }

    /** Named cells in the order in which the names were first told. */
    private static final class Places {
        int size = 0;
        final int[] where = new int[MOST_PLACES];
        final int[] lengths = new int[MOST_PLACES];
        final char[] names = new char[MOST_PLACES * LONGEST_NAME];

        boolean has(int k) {
            return k >= 0 && k < size;
        }

        int letterOf(int k, int i) {
            return names[k * LONGEST_NAME + i];
        }

        void copyFrom(Places other) {
            size = other.size;
            System.arraycopy(other.where, 0, where, 0, MOST_PLACES);
            System.arraycopy(other.lengths, 0, lengths, 0, MOST_PLACES);
            System.arraycopy(other.names, 0, names, 0, MOST_PLACES * LONGEST_NAME);
        }

        int tell(char[] signs, int begin, int length, int cell) {
            int k = find(signs, begin, length);
            if (k == size) {
                if (size >= MOST_PLACES) {
                    return ROOM;
                }
                lengths[k] = length;
                System.arraycopy(signs, begin, names, k * LONGEST_NAME, length);
                size++;
            }
            where[k] = cell;
            return k;
        }

        /** The place of that name, or the number of places if there is none. */
        private int find(char[] signs, int begin, int length) {
            for (int k = 0; k < size; k++) {
                if (isNamed(k, signs, begin, length)) {
                    return k;
                }
            }
            return size;
        }

        private boolean isNamed(int k, char[] signs, int begin, int length) {
            if (lengths[k] != length) {
                return false;
            }
            for (int i = 0; i < length; i++) {
                if (names[k * LONGEST_NAME + i] != signs[begin + i]) {
                    return false;
                }
            }
            return true;
        }

        /** Only places at cells below n stay, in their order. */
        void dropFrom(int n) {
            int stay = 0;
            for (int k = 0; k < size; k++) {
                if (where[k] < n) {
                    where[stay] = where[k];
                    lengths[stay] = lengths[k];
                    System.arraycopy(names, k * LONGEST_NAME, names, stay * LONGEST_NAME, LONGEST_NAME);
                    stay++;
                }
            }
            size = stay;
        }
    }

    /**
     * All that the image holds, and what can be seen on it. Bridges are asked about as bits
     * ('there'), so that a line without some of them needs no copy.
     */
    private static final class Line {
        int cells = 16;
        final int[] ground = new int[MOST_CELLS];
        int bridgeCount = 0;
        final int[] bridgeCell = new int[MOST_BRIDGES];
        final int[] low = new int[MOST_BRIDGES];
        final int[] high = new int[MOST_BRIDGES];
        int postCount = 0;
        final int[] postCell = new int[MOST_POSTS];
        final int[] tall = new int[MOST_POSTS];
        int trainCount = 0;
        final Train[] trains = new Train[MOST_TRAINS];
        int need = 10;
        final Places places = new Places();

        Line() {
            for (int c = 0; c < MOST_CELLS; c++) {
                ground[c] = FLAT_GROUND;
            }
            for (int t = 0; t < MOST_TRAINS; t++) {
                trains[t] = new Train();
            }
        }

        void copyFrom(Line other) {
            cells = other.cells;
            System.arraycopy(other.ground, 0, ground, 0, MOST_CELLS);
            bridgeCount = other.bridgeCount;
            System.arraycopy(other.bridgeCell, 0, bridgeCell, 0, MOST_BRIDGES);
            System.arraycopy(other.low, 0, low, 0, MOST_BRIDGES);
            System.arraycopy(other.high, 0, high, 0, MOST_BRIDGES);
            postCount = other.postCount;
            System.arraycopy(other.postCell, 0, postCell, 0, MOST_POSTS);
            System.arraycopy(other.tall, 0, tall, 0, MOST_POSTS);
            trainCount = other.trainCount;
            for (int t = 0; t < MOST_TRAINS; t++) {
                trains[t].copyFrom(other.trains[t]);
            }
            need = other.need;
            places.copyFrom(other.places);
        }

        boolean hasCell(int cell) {
            return cell >= 0 && cell < cells;
        }

        boolean hasBridge(int bridge) {
            return bridge >= 0 && bridge < bridgeCount;
        }

        boolean hasPost(int post) {
            return post >= 0 && post < postCount;
        }

        boolean hasTrain(int train) {
            return train >= 0 && train < trainCount;
        }

        int allBridges() {
            return (1 << bridgeCount) - 1;
        }

        // ---- changes: what the document's calls answer, or the number of the refusal

        int resize(int n) {
            if (n < LEAST_CELLS) {
                return BELOW;
            }
            if (n > MOST_CELLS) {
                return ROOM;
            }
            int was = cells;
            cells = n;
            // Cells that are no more must be flat when they come back.
            for (int c = n; c < MOST_CELLS; c++) {
                ground[c] = FLAT_GROUND;
            }
            for (int b = bridgeCount - 1; b >= 0; b--) {
                if (bridgeCell[b] >= n) {
                    removeBridge(b);
                }
            }
            for (int p = postCount - 1; p >= 0; p--) {
                if (postCell[p] >= n) {
                    removePost(p);
                }
            }
            places.dropFrom(n);
            return was;
        }

        int setGround(int cell, int v) {
            if (!hasCell(cell)) {
                return NOBODY;
            }
            if (v < 0) {
                return BELOW;
            }
            if (v > MOST_GROUND) {
                return ROOM;
            }
            int was = ground[cell];
            ground[cell] = v;
            return was;
        }

        int addBridge(int cell, int from, int to) {
            if (!hasCell(cell)) {
                return NOBODY;
            }
            if (from < 0 || to < 0) {
                return BELOW;
            }
            if (from > MOST_HEIGHT || to > MOST_HEIGHT || bridgeCount >= MOST_BRIDGES) {
                return ROOM;
            }
            if (from > to) {
                return STATE;
            }
            bridgeCell[bridgeCount] = cell;
            low[bridgeCount] = from;
            high[bridgeCount] = to;
            return bridgeCount++;
        }

        void removeBridge(int bridge) {
            for (int b = bridge; b + 1 < bridgeCount; b++) {
                bridgeCell[b] = bridgeCell[b + 1];
                low[b] = low[b + 1];
                high[b] = high[b + 1];
            }
            bridgeCount--;
        }

        int addPost(int cell, int height) {
            if (!hasCell(cell)) {
                return NOBODY;
            }
            if (height < 0) {
                return BELOW;
            }
            if (height > MOST_TALL || postCount >= MOST_POSTS) {
                return ROOM;
            }
            if (postAt(cell) != NONE) {
                return STATE;
            }
            postCell[postCount] = cell;
            tall[postCount] = height;
            return postCount++;
        }

        int setPost(int post, int cell, int height) {
            if (!hasPost(post) || !hasCell(cell)) {
                return NOBODY;
            }
            if (height < 0) {
                return BELOW;
            }
            if (height > MOST_TALL) {
                return ROOM;
            }
            int there = postAt(cell);
            if (there != NONE && there != post) {
                return STATE;
            }
            int was = 100 * postCell[post] + tall[post];
            postCell[post] = cell;
            tall[post] = height;
            return was;
        }

        private int postAt(int cell) {
            for (int p = 0; p < postCount; p++) {
                if (postCell[p] == cell) {
                    return p;
                }
            }
            return NONE;
        }

        private void removePost(int post) {
            for (int p = post; p + 1 < postCount; p++) {
                postCell[p] = postCell[p + 1];
                tall[p] = tall[p + 1];
            }
            postCount--;
        }

        int addTrain(int kind, int figure, int slow, int way) {
            if (kind < 0 || kind >= KINDS || way < 0 || way > 1) {
                return OTHER;
            }
            if (figure < 0 || slow < 1) {
                return BELOW;
            }
            if (figure > MOST_FIGURE || slow > MOST_SLOW || trainCount >= MOST_TRAINS) {
                return ROOM;
            }
            Train added = trains[trainCount];
            added.kind = kind;
            added.figure = figure;
            added.slow = slow;
            added.way = way;
            return trainCount++;
        }

        int setNeed(int v) {
            if (v < 0) {
                return BELOW;
            }
            if (v > MOST_NEED) {
                return ROOM;
            }
            int was = need;
            need = v;
            return was;
        }

        /** Every cell's ground by lot; answers the seed that is left. */
        int drawGround(int seed) {
            int z = seed;
            for (int c = 0; c < cells; c++) {
                z = z * 1664525 + 1013904223;
                ground[c] = (z & 0x7fffffff) / 256 % (MOST_GROUND + 1);
            }
            return z;
        }

        // ---- times and sight

        int timeIn(Train train, int cell, int there) {
            int next = cell + train.step();
            int rise = hasCell(next) ? Math.max(0, ground[next] - ground[cell]) : 0;
            return train.timeFor(rise, isBridged(cell, there));
        }

        private boolean isBridged(int cell, int there) {
            for (int b = 0; b < bridgeCount; b++) {
                if ((there >> b & 1) == 1 && bridgeCell[b] == cell) {
                    return true;
                }
            }
            return false;
        }

        /**
         * Heights on the straight line are kept exact: all of them, and what they are held
         * against, are multiplied by the distance of the two cells.
         */
        boolean isClear(int a, int heightA, int b, int heightB, int there) {
            int left = Math.min(a, b);
            int right = Math.max(a, b);
            int far = right - left;
            int leftTop = ground[left] + (a < b ? heightA : heightB);
            int rightTop = ground[right] + (a < b ? heightB : heightA);
            for (int c = left + 1; c < right; c++) {
                if (leftTop * (right - c) + rightTop * (c - left) <= ground[c] * far) {
                    return false;
                }
            }
            for (int i = 0; i < bridgeCount; i++) {
                int c = bridgeCell[i];
                if ((there >> i & 1) == 1 && c > left && c < right) {
                    int top = leftTop * (right - c) + rightTop * (c - left);
                    if (top >= low[i] * far && top <= high[i] * far) {
                        return false;
                    }
                }
            }
            return true;
        }

        boolean seesPost(Train train, int post, int cell, int there) {
            int mark = postCell[post];
            boolean ahead = train.way == 0 ? mark > cell : mark < cell;
            return ahead && isClear(cell, train.eye(), mark, tall[post], there);
        }

        /** A mark is the cell where a post stands or is thought to stand; cells are gone through away from it. */
        int firstCell(Train train, int mark, int height, int there) {
            int answer = NONE;
            for (int far = 1; far < cells; far++) {
                int cell = mark - far * train.step();
                if (!hasCell(cell) || !isClear(cell, train.eye(), mark, height, there)) {
                    return answer;
                }
                answer = cell;
            }
            return answer;
        }

        int warningOf(Train train, int post, int there) {
            return warningFor(train, postCell[post], tall[post], there);
        }

        private int warningFor(Train train, int mark, int height, int there) {
            int sum = 0;
            for (int far = 1; far < cells; far++) {
                int cell = mark - far * train.step();
                if (!hasCell(cell) || !isClear(cell, train.eye(), mark, height, there)) {
                    return sum;
                }
                sum += timeIn(train, cell, there);
            }
            return sum;
        }

        /** Whether a post at a cell, of a height, is kept for all trains. */
        boolean keepsAll(int mark, int height) {
            for (int t = 0; t < trainCount; t++) {
                if (warningFor(trains[t], mark, height, allBridges()) < need) {
                    return false;
                }
            }
            return true;
        }

        int keptPairs(int there) {
            int pairs = 0;
            for (int p = 0; p < postCount; p++) {
                for (int t = 0; t < trainCount; t++) {
                    if (warningOf(trains[t], p, there) >= need) {
                        pairs++;
                    }
                }
            }
            return pairs;
        }

        boolean isSafe(int there) {
            for (int p = 0; p < postCount; p++) {
                for (int t = 0; t < trainCount; t++) {
                    if (warningOf(trains[t], p, there) < need) {
                        return false;
                    }
                }
            }
            return true;
        }

        int allWarnings() {
            int sum = 0;
            for (int p = 0; p < postCount; p++) {
                for (int t = 0; t < trainCount; t++) {
                    sum += warningOf(trains[t], p, allBridges());
                }
            }
            return sum;
        }

        int postsSeen(Train train, int cell) {
            int seen = 0;
            for (int p = 0; p < postCount; p++) {
                if (seesPost(train, p, cell, allBridges())) {
                    seen++;
                }
            }
            return seen;
        }

        int cellOfMost(Train train) {
            int answer = 0;
            int most = -1;
            for (int c = 0; c < cells; c++) {
                int seen = postsSeen(train, c);
                if (seen > most) {
                    most = seen;
                    answer = c;
                }
            }
            return answer;
        }

        int blindCells(Train train) {
            int bits = 0;
            for (int c = 0; c < cells; c++) {
                if (postsSeen(train, c) == 0) {
                    bits |= 1 << c;
                }
            }
            return bits;
        }

        // ---- stretches

        int unlikeStretches(int n) {
            int unlike = 0;
            for (int c = 0; c + n <= cells; c++) {
                if (!isRepeated(c, 0, c, n)) {
                    unlike++;
                }
            }
            return unlike;
        }

        int firstRepeated(int n) {
            for (int c = 0; c + n <= cells; c++) {
                if (isRepeated(c, c + 1, cells - n + 1, n)) {
                    return c;
                }
            }
            return NONE;
        }

        /** Whether one of the stretches that begin at cells from .. end less 1 is alike. */
        private boolean isRepeated(int stretch, int from, int end, int n) {
            for (int c = from; c < end; c++) {
                if (areAlike(stretch, c, n)) {
                    return true;
                }
            }
            return false;
        }

        private boolean areAlike(int one, int other, int n) {
            int all = allBridges();
            int apart = ground[other] - ground[one];
            for (int i = 0; i < n; i++) {
                if (ground[other + i] - ground[one + i] != apart
                        || isBridged(one + i, all) != isBridged(other + i, all)) {
                    return false;
                }
            }
            return true;
        }
    }

    /** The letters that came, read as statements. */
    private static final class Letters {
        private static final int GROUND = 0;
        private static final int BRIDGE = 1;
        private static final int POST = 2;
        private static final int TRAIN = 3;
        private static final int NEED = 4;
        private static final int CELLS = 5;
        private static final int PLACE = 6;
        private static final int WORDS = 7;
        private static final int LONGEST_WORD = 6;
        private static final int MOST_NUMBERS = 4;
        private static final int[] NUMBERS_OF = {2, 3, 2, 4, 1, 1, 1};

        int size = 0;
        int at = 0;
        private final char[] signs = new char[MOST_LETTERS];
        private int word = 0;
        private int nameBegin = 0;
        private int nameLength = 0;
        private final int[] numbers = new int[MOST_NUMBERS];

        int add(int c) {
            if (c < 0) {
                return BELOW;
            }
            if (c > MOST_SIGN || size >= MOST_LETTERS) {
                return ROOM;
            }
            signs[size] = (char) c;
            size++;
            return size;
        }

        void clear() {
            size = 0;
            at = 0;
        }

        void rewind() {
            at = 0;
        }

        boolean hasMore() {
            return at < size;
        }

        /** The place of the first letter that can't stand where it stands; -1 if all can. */
        int faultOfForm() {
            at = 0;
            if (size == 0) {
                return 0;
            }
            for (int i = 0; i < MOST_LETTERS && hasMore(); i++) {
                if (!readStatement()) {
                    return at;
                }
            }
            return -1;
        }

        /** Reads on from 'at'; where a letter can't go on, 'at' stays on it. */
        boolean readStatement() {
            if (!readWord()) {
                return false;
            }
            if (word == PLACE && !readName()) {
                return false;
            }
            for (int i = 0; i < NUMBERS_OF[word]; i++) {
                if (!readNumber(i)) {
                    return false;
                }
            }
            return readSign(';');
        }

        /** No word begins another one, so the first that is whole is the one. */
        private boolean readWord() {
            int begin = at;
            for (int i = 1; i <= LONGEST_WORD && hasMore(); i++) {
                boolean goesOn = false;
                for (int w = 0; w < WORDS; w++) {
                    if (beginsWord(w, begin, i)) {
                        goesOn = true;
                        word = w;
                    }
                }
                if (!goesOn) {
                    return false;
                }
                at++;
                if (textOf(word).length() == i) {
                    return true;
                }
            }
            return false;
        }

        private boolean beginsWord(int w, int begin, int length) {
            String text = textOf(w);
            if (text.length() < length || begin + length > size) {
                return false;
            }
            for (int i = 0; i < length; i++) {
                if (text.charAt(i) != signs[begin + i]) {
                    return false;
                }
            }
            return true;
        }

        private static String textOf(int w) {
            switch (w) {
                case GROUND: return "ground";
                case BRIDGE: return "bridge";
                case POST: return "post";
                case TRAIN: return "train";
                case NEED: return "need";
                case CELLS: return "cells";
                default: return "place";
            }
        }

        private boolean readName() {
            if (!readSign(' ')) {
                return false;
            }
            nameBegin = at;
            for (int i = 0; i < LONGEST_NAME && isBetween('a', 'z'); i++) {
                at++;
            }
            nameLength = at - nameBegin;
            return nameLength > 0;
        }

        private boolean readNumber(int i) {
            if (!readSign(' ') || !isBetween('0', '9')) {
                return false;
            }
            int v = signs[at] - '0';
            at++;
            if (isBetween('0', '9')) {
                v = 10 * v + signs[at] - '0';
                at++;
            }
            numbers[i] = v;
            return true;
        }

        private boolean readSign(char sign) {
            if (!isBetween(sign, sign)) {
                return false;
            }
            at++;
            return true;
        }

        private boolean isBetween(char least, char greatest) {
            return at < size && signs[at] >= least && signs[at] <= greatest;
        }

        /** The statement that was read last comes to a line: below 0 if it is refused. */
        int sayTo(Line hearer) {
            switch (word) {
                case GROUND: return hearer.setGround(numbers[0], numbers[1]);
                case BRIDGE: return hearer.addBridge(numbers[0], numbers[1], numbers[2]);
                case POST: return hearer.addPost(numbers[0], numbers[1]);
                case TRAIN: return hearer.addTrain(numbers[0], numbers[1], numbers[2], numbers[3]);
                case NEED: return hearer.setNeed(numbers[0]);
                case CELLS: return hearer.resize(numbers[0]);
                default: return sayPlace(hearer);
            }
        }

        private int sayPlace(Line hearer) {
            if (!hearer.hasCell(numbers[0])) {
                return NOBODY;
            }
            return hearer.places.tell(signs, nameBegin, nameLength, numbers[0]);
        }
    }

    /** A shelf: nothing, a row (its bytes are kept as longs, with their sign) or a train. */
    private static final class Shelf {
        private static final int NOTHING = -1;
        private static final int BYTES = 0;
        private static final int LONGS = 1;
        private static final int TRAIN = 2;

        int sort = NOTHING;
        int size = 0;
        final long[] row = new long[LONGEST_ROW];
        final Train train = new Train();

        void becomeRow(int newSort, int n) {
            sort = newSort;
            size = n;
            for (int i = 0; i < LONGEST_ROW; i++) {
                row[i] = 0L;
            }
        }

        void takeTrain(Train laid) {
            sort = TRAIN;
            size = 0;
            train.copyFrom(laid);
        }

        int faultOfSort(int wanted) {
            if (sort == NOTHING) {
                return NOTHING_THERE;
            }
            return sort == wanted ? 0 : ANOTHER_SORT;
        }

        int faultOfPlace(int i) {
            if (sort == NOTHING) {
                return NOTHING_THERE;
            }
            if (sort == TRAIN) {
                return ANOTHER_SORT;
            }
            return i >= 0 && i < size ? 0 : NO_SUCH_PLACE;
        }

        void write(int i, long v) {
            row[i] = sort == BYTES ? (byte) v : v;
        }
    }

    /** How posts are moved least so that all are kept; its rows are used again by each call. */
    private static final class Moves {
        private static final int FREE = -1;
        private static final int NEVER = 1000000;

        private final boolean[] good = new boolean[MOST_POSTS * MOST_CELLS];
        private final int[] order = new int[MOST_POSTS];
        private final int[] chosen = new int[MOST_POSTS];
        private final int[] reach = new int[MOST_CELLS];

        /** The least sum (post -1), or where a post comes by it. */
        int answer(Line line, int post) {
            prepare(line);
            int sum = leastSum(line);
            if (sum >= NEVER) {
                return NONE;
            }
            if (post < 0) {
                return sum;
            }
            for (int p = 0; p <= post; p++) {
                chosen[p] = firstCellBy(line, p, sum);
            }
            return chosen[post];
        }

        private void prepare(Line line) {
            for (int p = 0; p < line.postCount; p++) {
                int rank = 0;
                for (int q = 0; q < line.postCount; q++) {
                    if (line.postCell[q] < line.postCell[p]) {
                        rank++;
                    }
                }
                order[rank] = p;
                chosen[p] = FREE;
                for (int c = 0; c < line.cells; c++) {
                    good[p * MOST_CELLS + c] = line.keepsAll(c, line.tall[p]);
                }
            }
        }

        /** The first cell for a post by which, the chosen ones as they are, the sum is still met. */
        private int firstCellBy(Line line, int post, int sum) {
            for (int c = 0; c < line.cells; c++) {
                chosen[post] = c;
                if (leastSum(line) == sum) {
                    return c;
                }
            }
            return FREE;
        }

        /**
         * Post by post along the line: reach[c] is the least sum of the posts so far, the last
         * of them at cell c or before it.
         */
        private int leastSum(Line line) {
            for (int c = 0; c < line.cells; c++) {
                reach[c] = 0;
            }
            for (int i = 0; i < line.postCount; i++) {
                int post = order[i];
                int before = i == 0 ? 0 : NEVER;
                int least = NEVER;
                for (int c = 0; c < line.cells; c++) {
                    if (mayStand(post, c)) {
                        least = Math.min(least, before + Math.abs(c - line.postCell[post]));
                    }
                    before = reach[c];
                    reach[c] = least;
                }
            }
            return reach[line.cells - 1];
        }

        private boolean mayStand(int post, int cell) {
            return good[post * MOST_CELLS + cell] && (chosen[post] == FREE || chosen[post] == cell);
        }
    }
}
