import java.util.Arrays;

/** A placer for the labels of points on a map; ../shared/DOC.md says what each method promises. */
public final class LabelPlacer {
    public static final int NONE = -1, BAD = -2, STATE = -3, FULL = -4;

    private static final int MAP_SIZE = 200;
    private static final int MAX_POINTS = 20;
    private static final int SIDES = 8;
    private static final int ALL_SIDES = 255;
    private static final int MAX_PLACES = MAX_POINTS * SIDES;
    private static final int COUNTS = 13;
    private static final int POINT_PROPERTIES = 9;
    private static final int PLACE_PROPERTIES = 5;
    private static final int FAULTS_FROM = -2000;
    private static final long FIRST_HASH = 325;

    private final Points points;
    private final Window window;
    private final Places places;
    private final Labels labels;
    private final Search search;
    private final Lines lines;
    private final Text text;
    private final Command command;

    public LabelPlacer() {
        points = new Points();
        window = new Window();
        places = new Places(points, window);
        labels = new Labels(points, places);
        search = new Search(points, places);
        lines = new Lines(points, window, labels);
        text = new Text();
        command = new Command();
    }

    // ---- points and window

    public int addPoint(int x, int y, int width, int height, int priority, int sides) {
        boolean allowed = Points.allows(Points.X, x) && Points.allows(Points.Y, y)
                && Points.allows(Points.WIDTH, width) && Points.allows(Points.HEIGHT, height)
                && Points.allows(Points.PRIORITY, priority) && Points.allows(Points.SIDE_SET, sides);
        if (!allowed) {
            return BAD;
        }
        if (points.isAt(x, y)) {
            return STATE;
        }
        if (points.many >= MAX_POINTS) {
            return FULL;
        }
        int added = points.append(x, y);
        points.put(added, Points.WIDTH, width);
        points.put(added, Points.HEIGHT, height);
        points.put(added, Points.PRIORITY, priority);
        points.put(added, Points.SIDE_SET, sides);
        labels.hide(added);
        renew();
        return added;
    }

    public int removePoint(int point) {
        if (!points.has(point)) {
            return BAD;
        }
        labels.closeGap(point);
        points.closeGap(point);
        renew();
        return points.many;
    }

    public int setPoint(int point, int what, int value) {
        boolean settable = what >= Points.WIDTH && what <= Points.SIDE_SET;
        if (!points.has(point) || !settable || !Points.allows(what, value)) {
            return BAD;
        }
        int previous = points.get(point, what);
        points.put(point, what, value);
        renew();
        labels.hideIfClashing(point);
        return previous;
    }

    public int point(int point, int what) {
        if (!points.has(point)) {
            return BAD;
        }
        switch (what) {
            case 0: case 1: case 2: case 3: case 4: case 5:
                return points.get(point, what);
            case 6:
                return places.isVisible(point) ? 1 : 0;
            case 7:
                return labels.sideOf(point);
            case 8:
                return places.manyOf(point);
            default:
                return BAD;
        }
    }

    public int setWindow(int x, int y, int width, int height) {
        if (!Window.allows(x, y, width, height)) {
            return BAD;
        }
        window.put(x, y, width, height);
        renew();
        return places.visiblePoints();
    }

    public int pan(int dx, int dy) {
        long x = (long) window.x + dx;
        long y = (long) window.y + dy;
        if (!Window.allows(x, y, window.width, window.height)) {
            return BAD;
        }
        window.put((int) x, (int) y, window.width, window.height);
        int stayed = renew();
        labels.addFree();
        return stayed;
    }

    /** Every change of points or window ends here, since places and labels follow from them. */
    private int renew() {
        points.putInOrder();
        places.findAll();
        return labels.dropLost();
    }

    // ---- places

    public int place(int point, int side, int what) {
        if (!points.has(point) || !isSide(side)) {
            return BAD;
        }
        switch (what) {
            case 0:
                return places.isPlace(point, side) ? 1 : 0;
            case 1:
                return places.leftOf(point, side);
            case 2:
                return places.bottomOf(point, side);
            case 3:
                return places.clashesOf(point, side);
            case 4:
                return labels.clashing(point, side);
            default:
                return BAD;
        }
    }

    public int clash(int point, int side, int other, int its) {
        boolean named = points.has(point) && isSide(side) && points.has(other) && isSide(its);
        if (!named || point == other) {
            return BAD;
        }
        if (!places.isPlace(point, side) || !places.isPlace(other, its)) {
            return STATE;
        }
        return places.doClash(point, side, other, its) ? 1 : 0;
    }

    public int labelAt(int x, int y) {
        if (!Points.allows(Points.X, x) || !Points.allows(Points.Y, y)) {
            return BAD;
        }
        return labels.ownerOf(x, y);
    }

    private static boolean isSide(int side) {
        return side >= 0 && side < SIDES;
    }

    // ---- placing

    public int fill() {
        return labels.addFree();
    }

    public int improve() {
        return labels.makeRoom();
    }

    public int push() {
        return labels.pushAway();
    }

    public int show(int point, int side) {
        if (!points.has(point) || (side != NONE && !isSide(side))) {
            return BAD;
        }
        int previous = labels.sideOf(point);
        if (side == NONE) {
            labels.hide(point);
            return previous;
        }
        if (!labels.isFree(point, side)) {
            return STATE;
        }
        labels.put(point, side);
        return previous;
    }

    public int hideAll() {
        return labels.hideEach();
    }

    public int greatest() {
        return search.greatestSum();
    }

    // ---- leader lines

    public int leaders() {
        return lines.lay();
    }

    public int leader(int leader, int what) {
        if (leader < 0 || what < 0 || what >= Lines.PROPERTIES) {
            return BAD;
        }
        return leader < lines.many ? lines.get(leader, what) : NONE;
    }

    // ---- text

    public int type(int letter) {
        if (letter < 0 || letter > Text.GREATEST_BYTE) {
            return BAD;
        }
        if (text.length >= Text.MOST_BYTES) {
            return FULL;
        }
        text.append(letter);
        return text.length;
    }

    public int clear() {
        int length = text.length;
        text.length = 0;
        return length;
    }

    public int run() {
        int fault = command.read(text);
        if (fault != NONE) {
            return FAULTS_FROM - fault;
        }
        text.length = 0;
        int[] n = command.numbers;
        switch (command.kind) {
            case Command.POINT:
                return addPoint(n[0], n[1], n[2], n[3], n[4], ALL_SIDES);
            case Command.WINDOW:
                return setWindow(n[0], n[1], n[2], n[3]);
            case Command.PAN:
                return pan(n[0], n[1]);
            case Command.LABEL:
                return labels.addFree();
            case Command.IMPROVE:
                return labels.makeRoom();
            default:
                return labels.hideEach();
        }
    }

    // ---- numbers

    public int count(int what) {
        switch (what) {
            case 0:
                return points.many;
            case 1:
                return places.visiblePoints();
            case 2:
                return places.manyOfAll();
            case 3:
                return places.clashingPairs();
            case 4:
                return labels.manyShown();
            case 5:
                return labels.sumShown();
            case 6:
                return window.x;
            case 7:
                return window.y;
            case 8:
                return window.width;
            case 9:
                return window.height;
            case 10:
                return lines.many;
            case 11:
                return text.length;
            case 12:
                return labels.manyThatCanPush();
            default:
                return BAD;
        }
    }

    public long digest() {
        long hash = FIRST_HASH;
        for (int what = 0; what < COUNTS; what++) {
            hash = 31 * hash + count(what);
        }
        for (int p = 0; p < points.many; p++) {
            hash = withPoint(hash, p);
        }
        for (int i = 0; i < lines.many; i++) {
            for (int what = 0; what < Lines.PROPERTIES; what++) {
                hash = 31 * hash + leader(i, what);
            }
        }
        for (int i = 0; i < text.length; i++) {
            hash = 31 * hash + text.at(i);
        }
        return hash;
    }

    private long withPoint(long before, int p) {
        long hash = before;
        for (int what = 0; what < POINT_PROPERTIES; what++) {
            hash = 31 * hash + point(p, what);
        }
        for (int side = 0; side < SIDES; side++) {
            for (int what = 0; what < PLACE_PROPERTIES; what++) {
                hash = 31 * hash + place(p, side, what);
            }
        }
        return hash;
    }

    /** The points with the properties that addPoint() gives them, and their order. */
    private static final class Points {
        static final int X = 0, Y = 1, WIDTH = 2, HEIGHT = 3, PRIORITY = 4, SIDE_SET = 5;

        private static final int PROPERTIES = 6;
        private static final int[] LEAST = {0, 0, 1, 1, 1, 1};
        private static final int[] GREATEST = {199, 199, 20, 6, 9, 255};

        int many;
        private final int[] values;
        private final int[] order;

        Points() {
            many = 0;
            values = new int[MAX_POINTS * PROPERTIES];
            order = new int[MAX_POINTS];
        }

        static boolean allows(int what, int value) {
            return what >= 0 && what < PROPERTIES && value >= LEAST[what] && value <= GREATEST[what];
        }

        boolean has(int p) {
            return p >= 0 && p < many;
        }

        int get(int p, int what) {
            return values[p * PROPERTIES + what];
        }

        void put(int p, int what, int value) {
            values[p * PROPERTIES + what] = value;
        }

        /** Adds a point in a cell; the caller has made sure that there is room. */
        int append(int x, int y) {
            int p = many;
            many++;
            put(p, X, x);
            put(p, Y, y);
            return p;
        }

        void closeGap(int gone) {
            for (int i = (gone + 1) * PROPERTIES; i < many * PROPERTIES; i++) {
                values[i - PROPERTIES] = values[i];
            }
            many--;
        }

        boolean isAt(int x, int y) {
            return isIn(x, y, 1, 1);
        }

        /** Whether a point lies in the cells from (left, bottom) on. */
        boolean isIn(int left, int bottom, int width, int height) {
            for (int p = 0; p < many; p++) {
                int right = get(p, X) - left;
                int up = get(p, Y) - bottom;
                if (right >= 0 && right < width && up >= 0 && up < height) {
                    return true;
                }
            }
            return false;
        }

        void putInOrder() {
            int placed = 0;
            for (int priority = GREATEST[PRIORITY]; priority >= LEAST[PRIORITY]; priority--) {
                for (int p = 0; p < many; p++) {
                    if (get(p, PRIORITY) == priority && placed < MAX_POINTS) {
                        order[placed] = p;
                        placed++;
                    }
                }
            }
        }

        /** The point with the index i in the order of points. */
        int inOrder(int i) {
            return order[i];
        }
    }

    /** The part of the map that is looked at. */
    private static final class Window {
        private static final int LEAST_SIZE = 10, GREATEST_SIZE = 100;

        int x, y, width, height;

        Window() {
            x = 0;
            y = 0;
            width = 60;
            height = 40;
        }

        /** x and y are long, so that pan() can ask for any sum of two ints. */
        static boolean allows(long x, long y, int width, int height) {
            return width >= LEAST_SIZE && width <= GREATEST_SIZE
                    && height >= LEAST_SIZE && height <= GREATEST_SIZE
                    && x >= 0 && x <= MAP_SIZE - width && y >= 0 && y <= MAP_SIZE - height;
        }

        void put(int newX, int newY, int newWidth, int newHeight) {
            x = newX;
            y = newY;
            width = newWidth;
            height = newHeight;
        }

        boolean holds(int left, int bottom, int cellsWide, int cellsHigh) {
            return left >= x && left + cellsWide <= x + width
                    && bottom >= y && bottom + cellsHigh <= y + height;
        }

        int greatestX() {
            return x + width - 1;
        }

        int greatestY() {
            return y + height - 1;
        }
    }

    /** Where each label could stand: found once for each change, as nearly every call asks for it. */
    private static final class Places {
        private final Points points;
        private final Window window;
        private final int[] left;
        private final int[] bottom;
        // The column and the row just behind the label.
        private final int[] right;
        private final int[] top;
        private final boolean[] good;

        Places(Points points, Window window) {
            this.points = points;
            this.window = window;
            left = new int[MAX_PLACES];
            bottom = new int[MAX_PLACES];
            right = new int[MAX_PLACES];
            top = new int[MAX_PLACES];
            good = new boolean[MAX_PLACES];
        }

        void findAll() {
            for (int p = 0; p < points.many; p++) {
                for (int side = 0; side < SIDES; side++) {
                    int k = p * SIDES + side;
                    left[k] = findLeft(p, side);
                    bottom[k] = findBottom(p, side);
                    right[k] = left[k] + points.get(p, Points.WIDTH);
                    top[k] = bottom[k] + points.get(p, Points.HEIGHT);
                    good[k] = isGood(p, side);
                }
            }
        }

        private int findLeft(int p, int side) {
            int x = points.get(p, Points.X);
            int width = points.get(p, Points.WIDTH);
            switch (side) {
                case 0: case 2: case 4:
                    return x + 1;
                case 1: case 3: case 5:
                    return x - width;
                default:
                    return x - (width - 1) / 2;
            }
        }

        private int findBottom(int p, int side) {
            int y = points.get(p, Points.Y);
            int height = points.get(p, Points.HEIGHT);
            switch (side) {
                case 0: case 1: case 6:
                    return y + 1;
                case 2: case 3: case 7:
                    return y - height;
                default:
                    return y - (height - 1) / 2;
            }
        }

        private boolean isGood(int p, int side) {
            int width = points.get(p, Points.WIDTH);
            int height = points.get(p, Points.HEIGHT);
            int itsLeft = leftOf(p, side);
            int itsBottom = bottomOf(p, side);
            return (points.get(p, Points.SIDE_SET) >> side & 1) == 1
                    && isVisible(p)
                    && window.holds(itsLeft, itsBottom, width, height)
                    && !points.isIn(itsLeft, itsBottom, width, height);
        }

        boolean isVisible(int p) {
            return window.holds(points.get(p, Points.X), points.get(p, Points.Y), 1, 1);
        }

        int visiblePoints() {
            int found = 0;
            for (int p = 0; p < points.many; p++) {
                if (isVisible(p)) {
                    found++;
                }
            }
            return found;
        }

        boolean isPlace(int p, int side) {
            return good[p * SIDES + side];
        }

        int leftOf(int p, int side) {
            return left[p * SIDES + side];
        }

        int bottomOf(int p, int side) {
            return bottom[p * SIDES + side];
        }

        boolean covers(int p, int side, int x, int y) {
            int k = p * SIDES + side;
            return x >= left[k] && x < right[k] && y >= bottom[k] && y < top[k];
        }

        int manyOf(int p) {
            int found = 0;
            for (int side = 0; side < SIDES; side++) {
                if (isPlace(p, side)) {
                    found++;
                }
            }
            return found;
        }

        int manyOfAll() {
            int found = 0;
            for (int p = 0; p < points.many; p++) {
                found += manyOf(p);
            }
            return found;
        }

        /** Whether both are places, of different points, that clash; with the side NONE they do not. */
        boolean doClash(int p, int side, int other, int its) {
            if (p == other || side == NONE || its == NONE) {
                return false;
            }
            int a = p * SIDES + side;
            int b = other * SIDES + its;
            return good[a] && good[b]
                    && left[a] < right[b] && left[b] < right[a]
                    && bottom[a] < top[b] && bottom[b] < top[a];
        }

        int clashesOf(int p, int side) {
            return isPlace(p, side) ? clashesBefore(p, side, points.many) : 0;
        }

        /** The number of places of the points before the end that clash with a place. */
        private int clashesBefore(int p, int side, int end) {
            int found = 0;
            for (int other = 0; other < end; other++) {
                for (int its = 0; its < SIDES; its++) {
                    if (doClash(p, side, other, its)) {
                        found++;
                    }
                }
            }
            return found;
        }

        int clashingPairs() {
            int found = 0;
            for (int p = 0; p < points.many; p++) {
                for (int side = 0; side < SIDES; side++) {
                    if (isPlace(p, side)) {
                        found += clashesBefore(p, side, p);
                    }
                }
            }
            return found;
        }
    }

    /** The labels that are shown, which always stand at places that do not clash. */
    private static final class Labels {
        private static final int MOST_PUSHES = 1000;

        private final Points points;
        private final Places places;
        private final int[] shown;

        Labels(Points points, Places places) {
            this.points = points;
            this.places = places;
            shown = new int[MAX_POINTS];
            Arrays.fill(shown, NONE);
        }

        int sideOf(int p) {
            return shown[p];
        }

        void put(int p, int side) {
            shown[p] = side;
        }

        void hide(int p) {
            shown[p] = NONE;
        }

        private boolean isShown(int p) {
            return shown[p] != NONE;
        }

        /** Takes the label of a point away that is about to be removed. */
        void closeGap(int gone) {
            for (int p = gone + 1; p < points.many; p++) {
                shown[p - 1] = shown[p];
            }
        }

        /** Hides the labels that are not at places any more, and tells how many stay. */
        int dropLost() {
            for (int p = 0; p < points.many; p++) {
                if (isShown(p) && !places.isPlace(p, shown[p])) {
                    hide(p);
                }
            }
            return manyShown();
        }

        void hideIfClashing(int p) {
            if (isShown(p) && clashing(p, shown[p]) > 0) {
                hide(p);
            }
        }

        int hideEach() {
            int hidden = manyShown();
            Arrays.fill(shown, NONE);
            return hidden;
        }

        int manyShown() {
            int found = 0;
            for (int p = 0; p < points.many; p++) {
                if (isShown(p)) {
                    found++;
                }
            }
            return found;
        }

        int sumShown() {
            int sum = 0;
            for (int p = 0; p < points.many; p++) {
                if (isShown(p)) {
                    sum += points.get(p, Points.PRIORITY);
                }
            }
            return sum;
        }

        int ownerOf(int x, int y) {
            for (int p = 0; p < points.many; p++) {
                if (isShown(p) && places.covers(p, shown[p], x, y)) {
                    return p;
                }
            }
            return NONE;
        }

        boolean lacksLabel(int p) {
            return !isShown(p) && places.isVisible(p);
        }

        int clashing(int p, int side) {
            int found = 0;
            for (int other = 0; other < points.many; other++) {
                if (places.doClash(p, side, other, shown[other])) {
                    found++;
                }
            }
            return found;
        }

        /** Whether it is a place that clashes with no label that is shown. */
        boolean isFree(int p, int side) {
            return places.isPlace(p, side) && clashing(p, side) == 0;
        }

        int addFree() {
            int added = 0;
            for (int i = 0; i < points.many; i++) {
                int p = points.inOrder(i);
                if (lacksLabel(p) && showOnLeastFree(p)) {
                    added++;
                }
            }
            return added;
        }

        private boolean showOnLeastFree(int p) {
            for (int side = 0; side < SIDES; side++) {
                if (isFree(p, side)) {
                    put(p, side);
                    return true;
                }
            }
            return false;
        }

        int makeRoom() {
            int got = 0;
            for (int i = 0; i < points.many; i++) {
                int p = points.inOrder(i);
                if (lacksLabel(p) && showByMoving(p)) {
                    got++;
                }
            }
            return got;
        }

        private boolean showByMoving(int p) {
            for (int side = 0; side < SIDES; side++) {
                boolean cleared = isFree(p, side)
                        || (clashing(p, side) == 1 && moveAside(firstClashing(p, side), p, side));
                if (cleared) {
                    put(p, side);
                    return true;
                }
            }
            return false;
        }

        private int firstClashing(int p, int side) {
            for (int other = 0; other < points.many; other++) {
                if (places.doClash(p, side, other, shown[other])) {
                    return other;
                }
            }
            return NONE;
        }

        /** Moves the label that alone clashes with a place to its least side that is free then. */
        private boolean moveAside(int mover, int p, int side) {
            for (int its = 0; its < SIDES && mover != NONE; its++) {
                if (isFree(mover, its) && !places.doClash(p, side, mover, its)) {
                    put(mover, its);
                    return true;
                }
            }
            return false;
        }

        int pushAway() {
            int times = 0;
            // Ends long before the bound: while a point pushes, no more important one can, nor can later.
            while (times < MOST_PUSHES && pushFirst()) {
                times++;
            }
            return times;
        }

        private boolean pushFirst() {
            for (int i = 0; i < points.many; i++) {
                int p = points.inOrder(i);
                int side = sideToPush(p);
                if (side != NONE) {
                    hideClashing(p, side);
                    put(p, side);
                    return true;
                }
            }
            return false;
        }

        /** The first side on which the missing label of a point is only kept away by lesser ones. */
        private int sideToPush(int p) {
            if (!lacksLabel(p)) {
                return NONE;
            }
            for (int side = 0; side < SIDES; side++) {
                if (places.isPlace(p, side) && outranksClashing(p, side)) {
                    return side;
                }
            }
            return NONE;
        }

        private boolean outranksClashing(int p, int side) {
            int priority = points.get(p, Points.PRIORITY);
            for (int other = 0; other < points.many; other++) {
                if (points.get(other, Points.PRIORITY) >= priority
                        && places.doClash(p, side, other, shown[other])) {
                    return false;
                }
            }
            return true;
        }

        private void hideClashing(int p, int side) {
            for (int other = 0; other < points.many; other++) {
                if (places.doClash(p, side, other, shown[other])) {
                    hide(other);
                }
            }
        }

        int manyThatCanPush() {
            int found = 0;
            for (int p = 0; p < points.many; p++) {
                if (sideToPush(p) != NONE) {
                    found++;
                }
            }
            return found;
        }
    }

    /** The search for the greatest sum of priorities, over the few points that have places. */
    private static final class Search {
        private static final int MOST_POINTS = 6;

        private final Points points;
        private final Places places;
        private final int[] candidates;
        // Bit i * SIDES + side stands for the place of candidate i on that side.
        private final long[] clashMasks;
        private int many;

        Search(Points points, Places places) {
            this.points = points;
            this.places = places;
            candidates = new int[MOST_POINTS];
            clashMasks = new long[MOST_POINTS * SIDES];
            many = 0;
        }

        int greatestSum() {
            if (!gatherCandidates()) {
                return STATE;
            }
            long free = 0;
            for (int i = 0; i < many; i++) {
                for (int side = 0; side < SIDES; side++) {
                    int k = i * SIDES + side;
                    if (places.isPlace(candidates[i], side)) {
                        free |= 1L << k;
                    }
                    clashMasks[k] = maskOfClashes(candidates[i], side);
                }
            }
            return bestFrom(this, 0, free, 0, 0);
        }

        /** In the order of points, so that great sums are found early; false if there are too many. */
        private boolean gatherCandidates() {
            many = 0;
            for (int i = 0; i < points.many; i++) {
                int p = points.inOrder(i);
                if (places.manyOf(p) > 0) {
                    if (many >= MOST_POINTS) {
                        return false;
                    }
                    candidates[many] = p;
                    many++;
                }
            }
            return true;
        }

        private long maskOfClashes(int p, int side) {
            long mask = 0;
            for (int i = 0; i < many; i++) {
                for (int its = 0; its < SIDES; its++) {
                    if (places.doClash(p, side, candidates[i], its)) {
                        mask |= 1L << (i * SIDES + its);
                    }
                }
            }
            return mask;
        }

        /** The greater of best and the greatest sum, if the candidates from i on may use free places. */
        private static int bestFrom(Search in, int i, long free, int sum, int best) {
            int found = Math.max(best, sum);
            if (i >= in.many || sum + in.sumInReach(i, free) <= found) {
                return found;
            }
            int withIt = sum + in.priorityOf(i);
            for (int side = 0; side < SIDES; side++) {
                int k = i * SIDES + side;
                if ((free >>> k & 1) == 1) {
                    found = bestFrom(in, i + 1, free & ~in.clashMasks[k], withIt, found);
                }
            }
            return bestFrom(in, i + 1, free, sum, found);
        }

        /** No sum of the candidates from i on is greater, as each of them needs a free place. */
        private int sumInReach(int i, long free) {
            int sum = 0;
            for (int j = i; j < many; j++) {
                if ((free >>> (j * SIDES) & ALL_SIDES) != 0) {
                    sum += priorityOf(j);
                }
            }
            return sum;
        }

        private int priorityOf(int i) {
            return points.get(candidates[i], Points.PRIORITY);
        }
    }

    /** The leader lines, kept as they were found. */
    private static final class Lines {
        static final int PROPERTIES = 4;

        private static final int POINT = 0, ROW = 1, COLUMN = 2, LENGTH = 3;

        int many;
        private final Points points;
        private final Window window;
        private final Labels labels;
        private final int[] kept;
        private final int[] waiting;

        Lines(Points points, Window window, Labels labels) {
            this.points = points;
            this.window = window;
            this.labels = labels;
            many = 0;
            kept = new int[MAX_POINTS * PROPERTIES];
            waiting = new int[MAX_POINTS];
        }

        int get(int line, int what) {
            return kept[line * PROPERTIES + what];
        }

        int lay() {
            int found = gatherWaiting();
            if (found > 0 && slotRow(found - 1) < window.y) {
                return STATE;
            }
            many = found;
            for (int i = 0; i < many; i++) {
                keep(i);
            }
            return many;
        }

        private int slotRow(int i) {
            return window.greatestY() - 2 * i;
        }

        /** Puts the visible points without a label in the order of the leaders. */
        private int gatherWaiting() {
            int found = 0;
            for (int p = 0; p < points.many; p++) {
                if (labels.lacksLabel(p)) {
                    int i = found;
                    while (i > 0 && comesBefore(p, waiting[i - 1])) {
                        waiting[i] = waiting[i - 1];
                        i--;
                    }
                    waiting[i] = p;
                    found++;
                }
            }
            return found;
        }

        private boolean comesBefore(int p, int other) {
            int y = points.get(p, Points.Y);
            int otherY = points.get(other, Points.Y);
            return y > otherY || (y == otherY && points.get(p, Points.X) < points.get(other, Points.X));
        }

        private void keep(int i) {
            int p = waiting[i];
            int x = points.get(p, Points.X);
            int y = points.get(p, Points.Y);
            int row = slotRow(i);
            int firstColumn = window.greatestX() + 1;
            int bends = row > y ? i : many - 1 - i;
            int margin = firstColumn + many;
            int from = i * PROPERTIES;
            kept[from + POINT] = p;
            kept[from + ROW] = row;
            kept[from + COLUMN] = firstColumn + bends;
            kept[from + LENGTH] = margin - x + Math.abs(row - y);
        }
    }

    /** The bytes that were typed. */
    private static final class Text {
        static final int MOST_BYTES = 80;
        static final int GREATEST_BYTE = 127;

        int length;
        private final byte[] bytes;

        Text() {
            length = 0;
            bytes = new byte[MOST_BYTES];
        }

        /** The caller has made sure that there is room. */
        void append(int letter) {
            bytes[length] = (byte) letter;
            length++;
        }

        /** The byte at an index, or NONE outside the text. */
        int at(int i) {
            return i >= 0 && i < length ? bytes[i] : NONE;
        }

        boolean isDigit(int i) {
            return at(i) >= '0' && at(i) <= '9';
        }

        boolean isSmallLetter(int i) {
            return at(i) >= 'a' && at(i) <= 'z';
        }

        boolean isWord(int from, int to, String word) {
            if (to - from != word.length()) {
                return false;
            }
            for (int i = 0; i < word.length(); i++) {
                if (at(from + i) != word.charAt(i)) {
                    return false;
                }
            }
            return true;
        }
    }

    /** The command that a text describes. */
    private static final class Command {
        static final int POINT = 0, WINDOW = 1, PAN = 2, LABEL = 3, IMPROVE = 4, HIDE = 5;

        private static final int[] NUMBERS = {5, 4, 2, 0, 0, 0};
        private static final int MOST_NUMBERS = 5;
        private static final int MOST_DIGITS = 3;

        int kind;
        final int[] numbers;
        private int next;

        Command() {
            kind = NONE;
            numbers = new int[MOST_NUMBERS];
            next = 0;
        }

        /** The fault of the text, or NONE; then kind and numbers are those of its command. */
        int read(Text text) {
            next = 0;
            skipBlanks(text);
            int word = next;
            while (next < text.length && text.isSmallLetter(next)) {
                next++;
            }
            kind = kindOf(text, word, next);
            if (kind == NONE) {
                return word;
            }
            for (int i = 0; i < NUMBERS[kind]; i++) {
                if (!readNumber(text, i)) {
                    return next;
                }
            }
            skipBlanks(text);
            return next < text.length ? next : NONE;
        }

        private static int kindOf(Text text, int from, int to) {
            if (text.isWord(from, to, "point")) {
                return POINT;
            }
            if (text.isWord(from, to, "window")) {
                return WINDOW;
            }
            if (text.isWord(from, to, "pan")) {
                return PAN;
            }
            if (text.isWord(from, to, "label")) {
                return LABEL;
            }
            if (text.isWord(from, to, "improve")) {
                return IMPROVE;
            }
            return text.isWord(from, to, "hide") ? HIDE : NONE;
        }

        private void skipBlanks(Text text) {
            while (next < text.length && text.at(next) == ' ') {
                next++;
            }
        }

        /** Reads a number, or a whole for "pan"; if it cannot, next is the fault. */
        private boolean readNumber(Text text, int index) {
            skipBlanks(text);
            boolean negative = kind == PAN && text.at(next) == '-';
            if (negative) {
                next++;
                skipBlanks(text);
            }
            // A digit before it belongs to a number that was already as long as numbers can be.
            if (!text.isDigit(next) || text.isDigit(next - 1)) {
                return false;
            }
            int value = 0;
            for (int i = 0; i < MOST_DIGITS && text.isDigit(next); i++) {
                value = 10 * value + text.at(next) - '0';
                next++;
            }
            numbers[index] = negative ? -value : value;
            return true;
        }
    }
}
