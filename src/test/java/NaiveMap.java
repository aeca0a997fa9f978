import java.util.ArrayList;
import java.util.Arrays;
import java.util.Comparator;
import java.util.List;
import java.util.Set;
import java.util.regex.Matcher;
import java.util.regex.Pattern;

/** The document said a second time, as plainly as can be, cell by cell: what LabelPlacer is held against. */
final class NaiveMap {
    private static final int NONE = -1, BAD = -2, STATE = -3, FULL = -4;

    private static final class Spot {
        int x, y, w, h, priority, sides;
        int shown = NONE;
    }

    private record Label(Spot spot, int side) {
    }

    private final List<Spot> spots = new ArrayList<>();
    private final List<int[]> lines = new ArrayList<>();
    private final StringBuilder text = new StringBuilder();
    private int wx = 0, wy = 0, ww = 60, wh = 40;

    private static boolean within(int value, int least, int greatest) {
        return least <= value && value <= greatest;
    }

    // ---- what follows from points and window

    private boolean visible(Spot s) {
        return s.x >= wx && s.y >= wy && s.x < wx + ww && s.y < wy + wh;
    }

    private static int left(Spot s, int side) {
        return switch (side) {
            case 0, 2, 4 -> s.x + 1;
            case 1, 3, 5 -> s.x - s.w;
            default -> s.x - Math.floorDiv(s.w - 1, 2);
        };
    }

    private static int bottom(Spot s, int side) {
        return switch (side) {
            case 0, 1, 6 -> s.y + 1;
            case 2, 3, 7 -> s.y - s.h;
            default -> s.y - Math.floorDiv(s.h - 1, 2);
        };
    }

    private static boolean covers(Spot s, int side, int x, int y) {
        int left = left(s, side);
        int bottom = bottom(s, side);
        return left <= x && x < left + s.w && bottom <= y && y < bottom + s.h;
    }

    private boolean isPlace(Spot s, int side) {
        if (!visible(s) || (s.sides & (1 << side)) == 0) {
            return false;
        }
        for (Spot other : spots) {
            if (covers(s, side, other.x, other.y)) {
                return false;
            }
        }
        for (int x = left(s, side); x < left(s, side) + s.w; x++) {
            for (int y = bottom(s, side); y < bottom(s, side) + s.h; y++) {
                if (!within(x, wx, wx + ww - 1) || !within(y, wy, wy + wh - 1)) {
                    return false;
                }
            }
        }
        return true;
    }

    private List<Label> placesOf(Spot s) {
        List<Label> found = new ArrayList<>();
        for (int side = 0; side < 8; side++) {
            if (isPlace(s, side)) {
                found.add(new Label(s, side));
            }
        }
        return found;
    }

    private List<Label> allPlaces() {
        List<Label> found = new ArrayList<>();
        for (Spot s : spots) {
            found.addAll(placesOf(s));
        }
        return found;
    }

    private static boolean clashing(Label a, Label b) {
        if (a.spot == b.spot) {
            return false;
        }
        int left = left(a.spot, a.side);
        int bottom = bottom(a.spot, a.side);
        for (int x = left; x < left + a.spot.w; x++) {
            for (int y = bottom; y < bottom + a.spot.h; y++) {
                if (covers(b.spot, b.side, x, y)) {
                    return true;
                }
            }
        }
        return false;
    }

    private List<Label> shown() {
        List<Label> found = new ArrayList<>();
        for (Spot s : spots) {
            if (s.shown != NONE) {
                found.add(new Label(s, s.shown));
            }
        }
        return found;
    }

    private List<Label> shownAgainst(Label place) {
        List<Label> found = new ArrayList<>();
        for (Label label : shown()) {
            if (clashing(place, label)) {
                found.add(label);
            }
        }
        return found;
    }

    private List<Spot> lacking() {
        List<Spot> found = new ArrayList<>();
        for (Spot s : spots) {
            if (visible(s) && s.shown == NONE) {
                found.add(s);
            }
        }
        found.sort(Comparator.comparingInt((Spot s) -> -s.priority));
        return found;
    }

    private void settle() {
        for (Label label : shown()) {
            if (!isPlace(label.spot, label.side)) {
                label.spot.shown = NONE;
            }
        }
    }

    /** The state keeps what the document says of it at all times. */
    boolean isSound() {
        List<Label> all = shown();
        for (Label a : all) {
            if (!isPlace(a.spot, a.side) || !shownAgainst(a).isEmpty()) {
                return false;
            }
        }
        return true;
    }

    // ---- the face

    int addPoint(int x, int y, int w, int h, int priority, int sides) {
        if (!within(x, 0, 199) || !within(y, 0, 199) || !within(w, 1, 20) || !within(h, 1, 6)
                || !within(priority, 1, 9) || !within(sides, 1, 255)) {
            return BAD;
        }
        for (Spot s : spots) {
            if (s.x == x && s.y == y) {
                return STATE;
            }
        }
        if (spots.size() == 20) {
            return FULL;
        }
        Spot s = new Spot();
        s.x = x;
        s.y = y;
        s.w = w;
        s.h = h;
        s.priority = priority;
        s.sides = sides;
        spots.add(s);
        settle();
        return spots.size() - 1;
    }

    private boolean has(int point) {
        return within(point, 0, spots.size() - 1);
    }

    int removePoint(int point) {
        if (!has(point)) {
            return BAD;
        }
        spots.remove(point);
        settle();
        return spots.size();
    }

    int setPoint(int point, int what, int value) {
        if (!has(point) || !within(what, 2, 5)) {
            return BAD;
        }
        int[] greatest = {0, 0, 20, 6, 9, 255};
        if (!within(value, 1, greatest[what])) {
            return BAD;
        }
        int previous = point(point, what);
        Spot s = spots.get(point);
        if (what == 2) {
            s.w = value;
        } else if (what == 3) {
            s.h = value;
        } else if (what == 4) {
            s.priority = value;
        } else {
            s.sides = value;
        }
        settle();
        if (s.shown != NONE && !shownAgainst(new Label(s, s.shown)).isEmpty()) {
            s.shown = NONE;
        }
        return previous;
    }

    int point(int point, int what) {
        if (!has(point) || !within(what, 0, 8)) {
            return BAD;
        }
        Spot s = spots.get(point);
        int[] all = {s.x, s.y, s.w, s.h, s.priority, s.sides, visible(s) ? 1 : 0, s.shown, placesOf(s).size()};
        return all[what];
    }

    int setWindow(int x, int y, int width, int height) {
        if (!within(width, 10, 100) || !within(height, 10, 100) || !within(x, 0, 200 - width)
                || !within(y, 0, 200 - height)) {
            return BAD;
        }
        wx = x;
        wy = y;
        ww = width;
        wh = height;
        settle();
        return count(1);
    }

    int pan(int dx, int dy) {
        if (!within(dx, -wx, 200 - ww - wx) || !within(dy, -wy, 200 - wh - wy)) {
            return BAD;
        }
        wx += dx;
        wy += dy;
        settle();
        int stayed = shown().size();
        fill();
        return stayed;
    }

    int place(int point, int side, int what) {
        if (!has(point) || !within(side, 0, 7) || !within(what, 0, 4)) {
            return BAD;
        }
        Spot s = spots.get(point);
        Label it = new Label(s, side);
        if (what == 1) {
            return left(s, side);
        }
        if (what == 2) {
            return bottom(s, side);
        }
        if (!isPlace(s, side)) {
            return 0;
        }
        if (what == 0) {
            return 1;
        }
        if (what == 4) {
            return shownAgainst(it).size();
        }
        int found = 0;
        for (Label other : allPlaces()) {
            found += clashing(it, other) ? 1 : 0;
        }
        return found;
    }

    int clash(int point, int side, int other, int its) {
        if (!has(point) || !has(other) || !within(side, 0, 7) || !within(its, 0, 7) || point == other) {
            return BAD;
        }
        Spot a = spots.get(point);
        Spot b = spots.get(other);
        if (!isPlace(a, side) || !isPlace(b, its)) {
            return STATE;
        }
        return clashing(new Label(a, side), new Label(b, its)) ? 1 : 0;
    }

    int labelAt(int x, int y) {
        if (!within(x, 0, 199) || !within(y, 0, 199)) {
            return BAD;
        }
        for (Label label : shown()) {
            if (covers(label.spot, label.side, x, y)) {
                return spots.indexOf(label.spot);
            }
        }
        return NONE;
    }

    int fill() {
        int added = 0;
        for (Spot s : lacking()) {
            for (Label place : placesOf(s)) {
                if (s.shown == NONE && shownAgainst(place).isEmpty()) {
                    s.shown = place.side;
                    added++;
                }
            }
        }
        return added;
    }

    int improve() {
        int got = 0;
        for (Spot s : lacking()) {
            for (Label place : placesOf(s)) {
                if (s.shown != NONE) {
                    break;
                }
                List<Label> against = shownAgainst(place);
                if (against.size() == 1) {
                    Spot mover = against.get(0).spot;
                    for (Label away : placesOf(mover)) {
                        if (away.side != mover.shown && !clashing(away, place) && shownAgainst(away).isEmpty()) {
                            mover.shown = away.side;
                            s.shown = place.side;
                            break;
                        }
                    }
                } else if (against.isEmpty()) {
                    s.shown = place.side;
                }
            }
            got += s.shown != NONE ? 1 : 0;
        }
        return got;
    }

    private Label firstPush(Spot s) {
        for (Label place : placesOf(s)) {
            boolean lower = true;
            for (Label label : shownAgainst(place)) {
                lower = lower && label.spot.priority < s.priority;
            }
            if (lower) {
                return place;
            }
        }
        return null;
    }

    int push() {
        int times = 0;
        boolean going = true;
        while (going) {
            going = false;
            for (Spot s : lacking()) {
                Label place = firstPush(s);
                if (place != null) {
                    for (Label label : shownAgainst(place)) {
                        label.spot.shown = NONE;
                    }
                    s.shown = place.side;
                    times++;
                    going = true;
                    break;
                }
            }
        }
        return times;
    }

    int show(int point, int side) {
        if (!has(point) || !within(side, -1, 7)) {
            return BAD;
        }
        Spot s = spots.get(point);
        if (side != NONE && (!isPlace(s, side) || !shownAgainst(new Label(s, side)).isEmpty())) {
            return STATE;
        }
        int previous = s.shown;
        s.shown = side;
        return previous;
    }

    int hideAll() {
        int hidden = shown().size();
        for (Spot s : spots) {
            s.shown = NONE;
        }
        return hidden;
    }

    int greatest() {
        List<List<Label>> choices = new ArrayList<>();
        for (Spot s : spots) {
            if (!placesOf(s).isEmpty()) {
                choices.add(placesOf(s));
            }
        }
        return choices.size() > 6 ? STATE : greatestFrom(choices, 0, new ArrayList<>());
    }

    private int greatestFrom(List<List<Label>> choices, int i, List<Label> taken) {
        if (i == choices.size()) {
            int sum = 0;
            for (Label label : taken) {
                sum += label.spot.priority;
            }
            return sum;
        }
        int best = greatestFrom(choices, i + 1, taken);
        for (Label place : choices.get(i)) {
            boolean free = true;
            for (Label label : taken) {
                free = free && !clashing(label, place);
            }
            if (free) {
                taken.add(place);
                best = Math.max(best, greatestFrom(choices, i + 1, taken));
                taken.remove(taken.size() - 1);
            }
        }
        return best;
    }

    int leaders() {
        List<Spot> all = new ArrayList<>(lacking());
        all.sort(Comparator.comparingInt((Spot s) -> -s.y).thenComparingInt(s -> s.x));
        int n = all.size();
        int greatestX = wx + ww - 1;
        int highest = wy + wh - 1;
        List<int[]> laid = new ArrayList<>();
        for (int i = 0; i < n; i++) {
            Spot s = all.get(i);
            int row = highest - 2 * i;
            if (row < wy) {
                return STATE;
            }
            int j = row > s.y ? i : n - i - 1;
            int length = (greatestX + 1 + n - s.x) + Math.max(row - s.y, s.y - row);
            laid.add(new int[] {spots.indexOf(s), row, greatestX + 1 + j, length});
        }
        lines.clear();
        lines.addAll(laid);
        return n;
    }

    int leader(int leader, int what) {
        if (leader < 0 || !within(what, 0, 3)) {
            return BAD;
        }
        return leader < lines.size() ? lines.get(leader)[what] : NONE;
    }

    int type(int letter) {
        if (!within(letter, 0, 127)) {
            return BAD;
        }
        if (text.length() == 80) {
            return FULL;
        }
        text.append((char) letter);
        return text.length();
    }

    int clear() {
        int length = text.length();
        text.setLength(0);
        return length;
    }

    private static final String NUMBER = " *(?<![0-9])([0-9]{1,3})";
    private static final String WHOLE = " *(-? *(?<![0-9])[0-9]{1,3})";
    private static final Pattern GRAMMAR = Pattern.compile(" *(?:(point)" + NUMBER.repeat(5) + "|(window)" + NUMBER.repeat(4)
            + "|(pan)" + WHOLE.repeat(2) + "|(label)|(improve)|(hide)) *");
    private static final Set<String> WORDS = Set.of("point", "window", "pan", "label", "improve", "hide");

    int run() {
        String all = text.toString();
        Matcher whole = GRAMMAR.matcher(all);
        if (!whole.matches()) {
            return -2000 - faultOf(all);
        }
        text.setLength(0);
        List<String> parts = new ArrayList<>();
        for (int g = 1; g <= whole.groupCount(); g++) {
            if (whole.group(g) != null) {
                parts.add(whole.group(g).replace(" ", ""));
            }
        }
        int[] n = new int[5];
        for (int i = 1; i < parts.size(); i++) {
            n[i - 1] = Integer.parseInt(parts.get(i));
        }
        return switch (parts.get(0)) {
            case "point" -> addPoint(n[0], n[1], n[2], n[3], n[4], 255);
            case "window" -> setWindow(n[0], n[1], n[2], n[3]);
            case "pan" -> pan(n[0], n[1]);
            case "label" -> fill();
            case "improve" -> improve();
            default -> hideAll();
        };
    }

    /** A byte can stand at its place if what ends with it is the beginning of some command. */
    private static int faultOf(String all) {
        Matcher word = Pattern.compile(" *([a-z]+)").matcher(all);
        if (word.lookingAt() && !WORDS.contains(word.group(1))) {
            return word.start(1);
        }
        for (int end = 1; end <= all.length(); end++) {
            Matcher beginning = GRAMMAR.matcher(all.substring(0, end));
            if (!beginning.matches() && !beginning.hitEnd()) {
                return end - 1;
            }
        }
        return all.length();
    }

    int count(int what) {
        int found = 0;
        switch (what) {
            case 0:
                return spots.size();
            case 1:
                for (Spot s : spots) {
                    found += visible(s) ? 1 : 0;
                }
                return found;
            case 2:
                return allPlaces().size();
            case 3:
                List<Label> all = allPlaces();
                for (int i = 0; i < all.size(); i++) {
                    for (int j = 0; j < i; j++) {
                        found += clashing(all.get(i), all.get(j)) ? 1 : 0;
                    }
                }
                return found;
            case 4:
                return shown().size();
            case 5:
                for (Label label : shown()) {
                    found += label.spot.priority;
                }
                return found;
            case 12:
                for (Spot s : lacking()) {
                    found += firstPush(s) != null ? 1 : 0;
                }
                return found;
            default:
                int[] rest = {wx, wy, ww, wh, lines.size(), text.length()};
                return within(what, 6, 11) ? rest[what - 6] : BAD;
        }
    }

    long digest() {
        List<Long> numbers = new ArrayList<>();
        for (int what = 0; what < 13; what++) {
            numbers.add((long) count(what));
        }
        for (int p = 0; p < spots.size(); p++) {
            for (int what = 0; what < 9; what++) {
                numbers.add((long) point(p, what));
            }
            for (int k = 0; k < 40; k++) {
                numbers.add((long) place(p, k / 5, k % 5));
            }
        }
        for (int[] line : lines) {
            Arrays.stream(line).forEach(n -> numbers.add((long) n));
        }
        text.chars().forEach(n -> numbers.add((long) n));
        long hash = 325;
        for (long n : numbers) {
            hash = hash * 31 + n;
        }
        return hash;
    }
}
