import java.util.ArrayDeque;
import java.util.ArrayList;
import java.util.Collection;
import java.util.Comparator;
import java.util.HashMap;
import java.util.HashSet;
import java.util.List;
import java.util.Map;
import java.util.Set;
import java.util.TreeSet;

/** The document once more, with sets of cells and no regard to cost, to compare Leadlight with. */
final class Model {
    private static final class Glass {
        int colour;
        boolean original;
        int state;
        final List<int[]> layers = new ArrayList<>(); // heat, 0 unfired 1 fired 2 spoiled
        final List<Integer> things = new ArrayList<>(List.of(1));

        void note(int thing) {
            if (things.size() < 20) {
                things.add(thing);
            }
        }
    }

    private final List<Glass> glasses = new ArrayList<>(List.of(new Glass()));
    private final List<Set<Integer>> cells = new ArrayList<>();
    private int heart = 2;
    private int width = 20;
    private final TreeSet<Integer> bars = new TreeSet<>();

    Model() {
        Set<Integer> all = new TreeSet<>();
        for (int cell = 0; cell < 256; cell++) {
            all.add(cell);
        }
        cells.add(all);
    }

    private static void need(boolean so, RuntimeException otherwise) {
        if (!so) {
            throw otherwise;
        }
    }

    private static RuntimeException place() {
        return new IndexOutOfBoundsException();
    }

    private static RuntimeException argument() {
        return new IllegalArgumentException();
    }

    private static RuntimeException state() {
        return new IllegalStateException();
    }

    private boolean there(int piece) {
        return piece >= 0 && piece < cells.size() && !cells.get(piece).isEmpty();
    }

    private List<Integer> allThere() {
        List<Integer> found = new ArrayList<>();
        for (int piece = 0; piece < cells.size(); piece++) {
            if (there(piece)) {
                found.add(piece);
            }
        }
        return found;
    }

    private static List<Integer> neighbours(int cell) {
        List<Integer> found = new ArrayList<>();
        if (cell >= 16) {
            found.add(cell - 16);
        }
        if (cell < 240) {
            found.add(cell + 16);
        }
        if (cell % 16 != 0) {
            found.add(cell - 1);
        }
        if (cell % 16 != 15) {
            found.add(cell + 1);
        }
        return found;
    }

    private static boolean connected(Collection<Integer> part) {
        if (part.isEmpty()) {
            return false;
        }
        Set<Integer> met = new HashSet<>();
        ArrayDeque<Integer> open = new ArrayDeque<>(List.of(part.iterator().next()));
        while (!open.isEmpty()) {
            int cell = open.pop();
            if (part.contains(cell) && met.add(cell)) {
                open.addAll(neighbours(cell));
            }
        }
        return met.size() == part.size();
    }

    private static boolean beyond(int cell, int line) {
        return line < 16 ? cell / 16 > line : cell % 16 > line - 16;
    }

    private static Set<Integer> side(Set<Integer> of, int line, boolean beyond) {
        Set<Integer> part = new TreeSet<>(of);
        part.removeIf(cell -> beyond(cell, line) != beyond);
        return part;
    }

    int divide(int piece, int line) {
        need(there(piece), place());
        need(line >= 0 && line <= 30 && line != 15, argument());
        Set<Integer> near = side(cells.get(piece), line, false);
        Set<Integer> far = side(cells.get(piece), line, true);
        need(!glasses.get(piece).original && connected(near) && connected(far) && glasses.size() < 60, state());
        Glass added = new Glass();
        added.colour = glasses.get(piece).colour;
        glasses.add(added);
        glasses.get(piece).note(2);
        cells.set(piece, near);
        cells.add(far);
        return cells.size() - 1;
    }

    int give(int cell, int piece) {
        need(cell >= 0 && cell < 256 && there(piece), place());
        int from = pieceOf(cell);
        Set<Integer> rest = new TreeSet<>(cells.get(from));
        rest.remove(cell);
        boolean near = false;
        for (int next : neighbours(cell)) {
            near |= cells.get(piece).contains(next);
        }
        need(from != piece && near && !glasses.get(from).original && !glasses.get(piece).original
                && connected(rest), state());
        cells.set(from, rest);
        cells.get(piece).add(cell);
        glasses.get(from).note(2);
        glasses.get(piece).note(2);
        return from;
    }

    int join(int piece, int other) {
        need(there(piece) && there(other), place());
        boolean near = false;
        for (int cell : cells.get(piece)) {
            for (int next : neighbours(cell)) {
                near |= cells.get(other).contains(next);
            }
        }
        need(piece != other && near && !glasses.get(piece).original && !glasses.get(other).original, state());
        cells.get(piece).addAll(cells.get(other));
        cells.get(other).clear();
        glasses.get(piece).note(2);
        glasses.get(other).note(2);
        return cells.get(piece).size();
    }

    int colour(int piece, int colour) {
        need(there(piece), place());
        need(colour >= 0 && colour < 8, argument());
        Glass glass = glasses.get(piece);
        need(!glass.original, state());
        int before = glass.colour;
        glass.colour = colour;
        if (before != colour) {
            glass.note(3);
        }
        return before;
    }

    int finish() {
        int count = 0;
        for (int piece : allThere()) {
            Glass glass = glasses.get(piece);
            if (!glass.original) {
                glass.original = true;
                glass.note(6);
                count++;
            }
        }
        return count;
    }

    int heart(int heart) {
        need(heart >= 1 && heart <= 5, argument());
        int before = this.heart;
        this.heart = heart;
        return before;
    }

    int sheet(int width) {
        need(width >= 4 && width <= 40, argument());
        int before = this.width;
        this.width = width;
        return before;
    }

    boolean bar(int row) {
        need(row >= 0 && row <= 14, place());
        if (bars.remove(row)) {
            return true;
        }
        need(bars.size() < 5, state());
        bars.add(row);
        return false;
    }

    int paint(int piece, int heat) {
        need(there(piece), place());
        need(heat >= 500 && heat <= 700, argument());
        Glass glass = glasses.get(piece);
        need(glass.layers.size() < 5, state());
        glass.layers.add(new int[] {heat, 0});
        glass.note(4);
        return glass.layers.size();
    }

    int fire(int piece, int heat) {
        need(there(piece), place());
        need(heat >= 500 && heat <= 750, argument());
        int spoiled = 0;
        for (int[] layer : glasses.get(piece).layers) {
            if (layer[1] != 2 && heat - layer[0] > 30) {
                layer[1] = 2;
                spoiled++;
            } else if (layer[1] != 2 && layer[0] <= heat) {
                layer[1] = 1;
            }
        }
        glasses.get(piece).note(5);
        return spoiled;
    }

    int crack(int cell) {
        int piece = pieceOf(cell);
        glasses.get(piece).state = 1;
        glasses.get(piece).note(7);
        return piece;
    }

    int mend(int piece) {
        need(there(piece), place());
        need(glasses.get(piece).state == 1, state());
        glasses.get(piece).state = 2;
        glasses.get(piece).note(8);
        return broken();
    }

    private int broken() {
        int count = 0;
        for (int piece : allThere()) {
            count += glasses.get(piece).state == 1 ? 1 : 0;
        }
        return count;
    }

    int replace(int piece, int colour) {
        need(there(piece), place());
        need(colour >= 0 && colour < 8, argument());
        Glass glass = glasses.get(piece);
        need(!glass.original || glass.state == 1, state());
        int before = glass.colour;
        glass.colour = colour;
        glass.original = false;
        glass.state = 0;
        glass.layers.clear();
        glass.note(9);
        return before;
    }

    int pieces() {
        return allThere().size();
    }

    int pieceOf(int cell) {
        need(cell >= 0 && cell < 256, place());
        for (int piece : allThere()) {
            if (cells.get(piece).contains(cell)) {
                return piece;
            }
        }
        throw new AssertionError("a cell of no piece");
    }

    int piece(int piece, int what) {
        need(there(piece), place());
        need(what >= 0 && what <= 9, argument());
        Glass glass = glasses.get(piece);
        int[] tells = {cells.get(piece).size(), glass.colour, glass.original ? 1 : 0, glass.state,
            fault(cells.get(piece)), extent(cells.get(piece), 16), extent(cells.get(piece), 1),
            glass.layers.size(), layers(glass, 1), layers(glass, 2)};
        return tells[what];
    }

    private static int layers(Glass glass, int kind) {
        int count = 0;
        for (int[] layer : glass.layers) {
            count += layer[1] == kind ? 1 : 0;
        }
        return count;
    }

    /** How far the rows (unit 16) or columns (unit 1) of a part reach. */
    private static int extent(Set<Integer> part, int unit) {
        int least = 99;
        int most = -1;
        for (int cell : part) {
            int at = cell / unit % 16;
            least = Math.min(least, at);
            most = Math.max(most, at);
        }
        return most - least + 1;
    }

    private static int fault(Set<Integer> part) {
        for (int a : part) {
            for (int b : part) {
                if (a / 16 == b / 16 || a % 16 == b % 16) {
                    int step = a / 16 == b / 16 ? 1 : 16;
                    for (int between = a + step; between < b; between += step) {
                        if (!part.contains(between)) {
                            return 1;
                        }
                    }
                }
            }
        }
        Set<Integer> squared = new HashSet<>();
        for (int cell : part) {
            List<Integer> square = List.of(cell, cell + 1, cell + 16, cell + 17);
            if (cell % 16 != 15 && part.containsAll(square)) {
                squared.addAll(square);
            }
        }
        return squared.containsAll(part) ? 0 : 2;
    }

    int bestLine(int piece) {
        need(there(piece), place());
        int best = -1;
        int fewest = 999;
        for (int line = 0; line <= 30; line++) {
            Set<Integer> near = side(cells.get(piece), line, false);
            Set<Integer> far = side(cells.get(piece), line, true);
            int sides = 0;
            for (int cell : near) {
                for (int next : neighbours(cell)) {
                    sides += far.contains(next) ? 1 : 0;
                }
            }
            boolean good = connected(near) && connected(far) && fault(near) == 0 && fault(far) == 0;
            if (good && sides < fewest) {
                best = line;
                fewest = sides;
            }
        }
        return best;
    }

    /** The leads as pairs of corners, a corner being 17 times its row, and its column. */
    private List<int[]> leads() {
        int[] owner = owners();
        List<int[]> found = new ArrayList<>();
        for (int cell = 0; cell < 256; cell++) {
            int corner = cell / 16 * 17 + cell % 16;
            if (cell < 16) {
                found.add(new int[] {corner, corner + 1});
            }
            if (cell % 16 == 0) {
                found.add(new int[] {corner, corner + 17});
            }
            if (cell >= 240 || owner[cell] != owner[cell + 16]) {
                found.add(new int[] {corner + 17, corner + 18});
            }
            if (cell % 16 == 15 || owner[cell] != owner[cell + 1]) {
                found.add(new int[] {corner + 1, corner + 18});
            }
        }
        return found;
    }

    private int[] owners() {
        int[] owner = new int[256];
        for (int piece : allThere()) {
            for (int cell : cells.get(piece)) {
                owner[cell] = piece;
            }
        }
        return owner;
    }

    int lead() {
        return leads().size();
    }

    int joints() {
        Map<Integer, Integer> meeting = new HashMap<>();
        for (int[] lead : leads()) {
            meeting.merge(lead[0], 1, Integer::sum);
            meeting.merge(lead[1], 1, Integer::sum);
        }
        int count = 0;
        for (int sides : meeting.values()) {
            count += sides >= 3 ? 1 : 0;
        }
        return count;
    }

    int weight() {
        return 768 + heart * lead();
    }

    int assembled(int place) {
        int[] owner = owners();
        List<Integer> waiting = allThere();
        List<Integer> order = new ArrayList<>();
        while (!waiting.isEmpty()) {
            Integer next = null;
            for (Integer piece : waiting) {
                if (next == null && ready(piece, owner, order)) {
                    next = piece;
                }
            }
            if (next == null) {
                return -1;
            }
            order.add(next);
            waiting.remove(next);
        }
        return place >= 0 && place < order.size() ? order.get(place) : -1;
    }

    private boolean ready(int piece, int[] owner, List<Integer> order) {
        for (int cell : cells.get(piece)) {
            boolean free = cell >= 240 || owner[cell + 16] == piece || order.contains(owner[cell + 16]);
            free &= cell % 16 == 0 || owner[cell - 1] == piece || order.contains(owner[cell - 1]);
            if (!free) {
                return false;
            }
        }
        return true;
    }

    /** For each piece laid: sheet, lower edge, left. */
    private Map<Integer, int[]> laying(int colour) {
        List<Integer> queue = allThere();
        queue.removeIf(piece -> glasses.get(piece).colour != colour || extent(cells.get(piece), 1) > width);
        queue.sort(Comparator.comparingInt((Integer piece) -> -extent(cells.get(piece), 16))
                .thenComparingInt(piece -> -extent(cells.get(piece), 1)).thenComparingInt(piece -> piece));
        Map<Integer, int[]> laid = new HashMap<>();
        int sheet = 0;
        int low = 0;
        int top = 0;
        int left = 999;
        for (int piece : queue) {
            int high = extent(cells.get(piece), 16);
            int wide = extent(cells.get(piece), 1);
            if (left + wide > width) {
                if (laid.isEmpty()) {
                    low = 0;
                } else if (top + high <= 20) {
                    low = top;
                } else {
                    sheet++;
                    low = 0;
                }
                top = low + high;
                left = 0;
            }
            laid.put(piece, new int[] {sheet, low, left});
            left += wide;
        }
        return laid;
    }

    int sheets(int colour) {
        need(colour >= 0 && colour < 8, argument());
        int count = 0;
        for (int[] spot : laying(colour).values()) {
            count = Math.max(count, spot[0] + 1);
        }
        return count;
    }

    int laid(int piece) {
        need(there(piece), place());
        int[] spot = laying(glasses.get(piece).colour).get(piece);
        return spot == null ? -1 : spot[0] * 10000 + spot[1] * 100 + spot[2];
    }

    int waste(int colour) {
        int left = sheets(colour) * 20 * width;
        for (int piece : laying(colour).keySet()) {
            left -= cells.get(piece).size();
        }
        return left;
    }

    int floor(int depth, int column, int hour) {
        need(hour >= 7 && hour <= 17, argument());
        int[] owner = owners();
        int shown = 0;
        for (int cell = 0; cell < 256; cell++) {
            int high = 16 - cell / 16;
            int sun = hour < 12 ? hour - 6 : 18 - hour;
            long reached = 4L * high / sun;
            long beside = (long) Math.floor((hour - 12) * reached / 8.0);
            if (reached == depth && cell % 16 + beside == column) {
                shown |= 1 << glasses.get(owner[cell]).colour;
            }
        }
        return shown;
    }

    int floorAnew(int depth, int column, int hour) {
        return floor(depth, column, hour);
    }

    int crosses(int row) {
        need(row >= 0 && row <= 14, place());
        int count = 0;
        for (int piece : allThere()) {
            boolean crossed = false;
            for (int cell : cells.get(piece)) {
                crossed |= cell / 16 == row && cells.get(piece).contains(cell + 16);
            }
            count += crossed ? 1 : 0;
        }
        return count;
    }

    int bends(int panel, int wind) {
        need(panel >= 0 && panel <= bars.size(), place());
        need(wind >= 0 && wind <= 9, argument());
        List<Integer> ends = new ArrayList<>(List.of(-1));
        ends.addAll(bars);
        ends.add(15);
        int rows = ends.get(panel + 1) - ends.get(panel);
        return wind * rows * rows * rows / 64;
    }

    boolean isShut() {
        return broken() == 0;
    }

    int history(int piece, int place) {
        need(piece >= 0 && piece < glasses.size() && place >= 0, place());
        List<Integer> things = glasses.get(piece).things;
        return place < things.size() ? things.get(place) : -1;
    }
}
