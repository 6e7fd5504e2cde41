import java.util.ArrayList;
import java.util.Arrays;

/** A window of coloured glass. What each call promises stands in ../shared/DOC.md. */
public final class Leadlight {
    private static final int SIDE = 16;
    private static final int CELLS = SIDE * SIDE;
    /** Stands for the outside of the opening among pieces, and for an answer that there is not. */
    private static final int NONE = -1;

    /** Below 64, so that a set of pieces is the bits of one long. */
    private static final int MOST_PIECES = 60;
    private static final int MOST_LAYERS = 5;
    private static final int MOST_THINGS = 20;
    private static final int MOST_BARS = 5;
    private static final int MOST_WIND = 9;
    private static final int COLOURS = 8;

    private static final int WHOLE = 0;
    private static final int BROKEN = 1;
    private static final int MENDED = 2;

    private static final int UNFIRED = 0;
    private static final int FIRED = 1;
    private static final int SPOILED = 2;
    private static final int LEAST_HEAT = 500;
    private static final int MOST_PAINT_HEAT = 700;
    private static final int MOST_FIRE_HEAT = 750;
    private static final int HEAT_BORNE_ABOVE = 30;

    private static final int CAN_BE_CUT = 0;
    private static final int HAS_GAP = 1;
    private static final int IS_THIN = 2;

    private static final int CAME_ABOUT = 1;
    private static final int LOST_OR_GOT = 2;
    private static final int COLOURED = 3;
    private static final int PAINTED = 4;
    private static final int WAS_FIRED = 5;
    private static final int BECAME_ORIGINAL = 6;
    private static final int WAS_BROKEN = 7;
    private static final int WAS_MENDED = 8;
    private static final int REPLACED = 9;

    private static final int CELL_WEIGHT = 3;
    private static final int LEAST_HEART = 1;
    private static final int MOST_HEART = 5;
    private static final int LEAST_SHEET = 4;
    private static final int MOST_SHEET = 40;
    private static final int SHEET_HEIGHT = 20;

    private static final int FIRST_HOUR = 7;
    private static final int NOON = 12;
    private static final int LAST_HOUR = 17;
    private static final int NOON_SUN = 6;
    private static final int DEPTH_FACTOR = 4;
    private static final int MOST_DEPTH = DEPTH_FACTOR * SIDE;

    private final Cartoon cartoon = new Cartoon();
    private final ArrayList<Piece> made = new ArrayList<>();
    private final Shape whole = new Shape();
    private final Shape near = new Shape();
    private final Shape far = new Shape();
    private final Laying laying = new Laying();
    private int heartWeight = 2;
    private int sheetWidth = 20;
    /** Bit r is set while a bar lies behind row r. */
    private int bars = 0;

    public Leadlight() {
        made.add(new Piece(0));
    }

    // ---- pieces

    public int divide(int piece, int line)
            throws IndexOutOfBoundsException, IllegalArgumentException, IllegalStateException {
        Piece old = thePiece(piece);
        if (!isLine(line)) {
            throw new IllegalArgumentException("no such line");
        }
        whole.trace(cartoon, piece);
        splitWhole(line);
        if (old.original || made.size() >= MOST_PIECES || !near.isOnePart() || !far.isOnePart()) {
            throw new IllegalStateException("the piece cannot be divided by that line");
        }
        int number = made.size();
        made.add(new Piece(old.colour));
        cartoon.hand(far, number);
        old.note(LOST_OR_GOT);
        return number;
    }

    public int give(int cell, int piece) throws IndexOutOfBoundsException, IllegalStateException {
        int from = theOwner(cell);
        Piece giver = thePiece(from);
        Piece taker = thePiece(piece);
        if (from == piece || giver.original || taker.original || !cartoon.touches(cell, piece)) {
            throw new IllegalStateException("the cell cannot be given to that piece");
        }
        whole.trace(cartoon, from);
        whole.leave(cell);
        if (!whole.isOnePart()) {
            throw new IllegalStateException("the cell cannot be taken from its piece");
        }
        cartoon.hand(cell, piece);
        giver.note(LOST_OR_GOT);
        taker.note(LOST_OR_GOT);
        return from;
    }

    public int join(int piece, int other) throws IndexOutOfBoundsException, IllegalStateException {
        Piece first = thePiece(piece);
        Piece second = thePiece(other);
        if (piece == other || first.original || second.original || !cartoon.adjoin(piece, other)) {
            throw new IllegalStateException("the pieces cannot be joined");
        }
        whole.trace(cartoon, other);
        cartoon.hand(whole, piece);
        first.note(LOST_OR_GOT);
        second.note(LOST_OR_GOT);
        return shapeOf(piece).cellCount();
    }

    public int colour(int piece, int colour)
            throws IndexOutOfBoundsException, IllegalArgumentException, IllegalStateException {
        Piece coloured = thePiece(piece);
        testColour(colour);
        if (coloured.original) {
            throw new IllegalStateException("the piece is original");
        }
        int before = coloured.colour;
        if (colour != before) {
            coloured.colour = colour;
            coloured.note(COLOURED);
        }
        return before;
    }

    public int finish() {
        int count = 0;
        for (int number = 0; number < made.size(); number++) {
            Piece each = made.get(number);
            if (!each.original && cartoon.holds(number)) {
                each.original = true;
                each.note(BECAME_ORIGINAL);
                count++;
            }
        }
        return count;
    }

    // ---- leads, sheets, bars

    public int heart(int heart) throws IllegalArgumentException {
        if (heart < LEAST_HEART || heart > MOST_HEART) {
            throw new IllegalArgumentException("no such heart");
        }
        int before = heartWeight;
        heartWeight = heart;
        return before;
    }

    public int sheet(int width) throws IllegalArgumentException {
        if (width < LEAST_SHEET || width > MOST_SHEET) {
            throw new IllegalArgumentException("no such width");
        }
        int before = sheetWidth;
        sheetWidth = width;
        return before;
    }

    public boolean bar(int row) throws IndexOutOfBoundsException, IllegalStateException {
        testRowLine(row);
        boolean before = hasBar(row);
        if (!before && Integer.bitCount(bars) >= MOST_BARS) {
            throw new IllegalStateException("there are as many bars as can be");
        }
        bars ^= 1 << row;
        return before;
    }

    // ---- paint, breaking, mending

    public int paint(int piece, int heat)
            throws IndexOutOfBoundsException, IllegalArgumentException, IllegalStateException {
        Piece painted = thePiece(piece);
        if (heat < LEAST_HEAT || heat > MOST_PAINT_HEAT) {
            throw new IllegalArgumentException("no such heat");
        }
        if (painted.layers >= MOST_LAYERS) {
            throw new IllegalStateException("the piece has as many layers as can be");
        }
        painted.addLayer(heat);
        return painted.layers;
    }

    public int fire(int piece, int heat) throws IndexOutOfBoundsException, IllegalArgumentException {
        Piece fired = thePiece(piece);
        if (heat < LEAST_HEAT || heat > MOST_FIRE_HEAT) {
            throw new IllegalArgumentException("no such heat");
        }
        return fired.bearHeat(heat);
    }

    public int crack(int cell) throws IndexOutOfBoundsException {
        int owner = theOwner(cell);
        Piece cracked = thePiece(owner);
        cracked.state = BROKEN;
        cracked.note(WAS_BROKEN);
        return owner;
    }

    public int mend(int piece) throws IndexOutOfBoundsException, IllegalStateException {
        Piece mended = thePiece(piece);
        if (mended.state != BROKEN) {
            throw new IllegalStateException("the piece is not broken");
        }
        mended.state = MENDED;
        mended.note(WAS_MENDED);
        return brokenPieces();
    }

    public int replace(int piece, int colour)
            throws IndexOutOfBoundsException, IllegalArgumentException, IllegalStateException {
        Piece replaced = thePiece(piece);
        testColour(colour);
        if (replaced.original && replaced.state != BROKEN) {
            throw new IllegalStateException("the piece is original and not broken");
        }
        int before = replaced.colour;
        replaced.makeAnew(colour);
        replaced.note(REPLACED);
        return before;
    }

    // ---- what there is; nothing from here on changes anything

    public int pieces() {
        return Long.bitCount(cartoon.present());
    }

    public int pieceOf(int cell) throws IndexOutOfBoundsException {
        return theOwner(cell);
    }

    public int piece(int piece, int what) throws IndexOutOfBoundsException, IllegalArgumentException {
        Piece told = thePiece(piece);
        switch (what) {
            case 0:
                return shapeOf(piece).cellCount();
            case 1:
                return told.colour;
            case 2:
                return told.original ? 1 : 0;
            case 3:
                return told.state;
            case 4:
                return shapeOf(piece).cutFault();
            case 5:
                return shapeOf(piece).height();
            case 6:
                return shapeOf(piece).width();
            case 7:
                return told.layers;
            case 8:
                return told.layersThatAre(FIRED);
            case 9:
                return told.layersThatAre(SPOILED);
            default:
                throw new IllegalArgumentException("no such thing to tell");
        }
    }

    public int bestLine(int piece) throws IndexOutOfBoundsException {
        thePiece(piece);
        whole.trace(cartoon, piece);
        int best = NONE;
        int fewest = CELLS;
        for (int line = 0; line < 2 * SIDE; line++) {
            if (isLine(line) && whole.sidesAlong(line) < fewest && partsAreGood(line)) {
                best = line;
                fewest = whole.sidesAlong(line);
            }
        }
        return best;
    }

    public int lead() {
        return cartoon.leadLength();
    }

    public int joints() {
        return cartoon.jointCount();
    }

    public int weight() {
        return CELL_WEIGHT * CELLS + heartWeight * cartoon.leadLength();
    }

    public int assembled(int place) {
        return cartoon.putInAt(place);
    }

    public int sheets(int colour) throws IllegalArgumentException {
        testColour(colour);
        layColour(colour);
        return laying.sheetsUsed;
    }

    public int laid(int piece) throws IndexOutOfBoundsException {
        Piece sought = thePiece(piece);
        layColour(sought.colour);
        return laying.spotOf(piece);
    }

    public int waste(int colour) throws IllegalArgumentException {
        testColour(colour);
        layColour(colour);
        int left = laying.sheetsUsed * SHEET_HEIGHT * sheetWidth;
        for (int number = 0; number < made.size(); number++) {
            if (laying.spotOf(number) != NONE) {
                left -= shapeOf(number).cellCount();
            }
        }
        return left;
    }

    public int floor(int depth, int column, int hour) throws IllegalArgumentException {
        testHour(hour);
        int shown = 0;
        for (int row = 0; row < SIDE; row++) {
            int reached = depthOf(row, hour);
            for (int own = 0; own < SIDE; own++) {
                if (reached == depth && own + drift(reached, hour) == column) {
                    shown |= colourBit(row, own);
                }
            }
        }
        return shown;
    }

    public int floorAnew(int depth, int column, int hour) throws IllegalArgumentException {
        testHour(hour);
        if (depth < 0 || depth > MOST_DEPTH) {
            return 0;
        }
        long own = (long) column - drift(depth, hour);
        if (own < 0 || own >= SIDE) {
            return 0;
        }
        // A height h lights the depth if sun * depth <= 4 h < sun * (depth + 1).
        int sun = sunAt(hour);
        int lowest = Math.max(1, (sun * depth + DEPTH_FACTOR - 1) / DEPTH_FACTOR);
        int highest = Math.min(SIDE, (sun * (depth + 1) - 1) / DEPTH_FACTOR);
        int shown = 0;
        for (int height = lowest; height <= highest; height++) {
            shown |= colourBit(SIDE - height, (int) own);
        }
        return shown;
    }

    public int crosses(int row) throws IndexOutOfBoundsException {
        testRowLine(row);
        return cartoon.crossedBehind(row);
    }

    public int bends(int panel, int wind) throws IndexOutOfBoundsException, IllegalArgumentException {
        if (panel < 0 || panel > Integer.bitCount(bars)) {
            throw new IndexOutOfBoundsException("no such panel");
        }
        if (wind < 0 || wind > MOST_WIND) {
            throw new IllegalArgumentException("no such wind");
        }
        int rows = rowsOf(panel);
        return wind * rows * rows * rows / 64;
    }

    public boolean isShut() {
        return brokenPieces() == 0;
    }

    public int history(int piece, int place) throws IndexOutOfBoundsException {
        if (!isMade(piece) || place < 0) {
            throw new IndexOutOfBoundsException("there never was such a piece, or no such place");
        }
        return made.get(piece).thingAt(place);
    }

    // ---- what calls are tested for

    private static boolean isRowLine(int row) {
        return row >= 0 && row < SIDE - 1;
    }

    private static boolean isLine(int line) {
        return isRowLine(line) || isRowLine(line - SIDE);
    }

    private static boolean isNumber(int piece) {
        return piece >= 0 && piece < MOST_PIECES;
    }

    private boolean isMade(int piece) {
        return piece >= 0 && piece < made.size();
    }

    private Piece thePiece(int number) {
        if (!isMade(number) || !cartoon.holds(number)) {
            throw new IndexOutOfBoundsException("no such piece");
        }
        return made.get(number);
    }

    private int theOwner(int cell) {
        if (cell < 0 || cell >= CELLS) {
            throw new IndexOutOfBoundsException("no such cell");
        }
        return cartoon.ownerAt(cell / SIDE, cell % SIDE);
    }

    private static void testColour(int colour) {
        if (colour < 0 || colour >= COLOURS) {
            throw new IllegalArgumentException("no such colour");
        }
    }

    private static void testRowLine(int row) {
        if (!isRowLine(row)) {
            throw new IndexOutOfBoundsException("no such line");
        }
    }

    private static void testHour(int hour) {
        if (hour < FIRST_HOUR || hour > LAST_HOUR) {
            throw new IllegalArgumentException("no such hour");
        }
    }

    // ---- pieces and their shapes

    private Shape shapeOf(int piece) {
        whole.trace(cartoon, piece);
        return whole;
    }

    private void splitWhole(int line) {
        near.takeSide(whole, line, false);
        far.takeSide(whole, line, true);
    }

    private boolean partsAreGood(int line) {
        splitWhole(line);
        return near.isGoodPart() && far.isGoodPart();
    }

    private int brokenPieces() {
        int count = 0;
        for (int number = 0; number < made.size(); number++) {
            if (made.get(number).state == BROKEN && cartoon.holds(number)) {
                count++;
            }
        }
        return count;
    }

    private void layColour(int colour) {
        laying.begin();
        for (int number = 0; number < made.size(); number++) {
            if (made.get(number).colour == colour && cartoon.holds(number)) {
                Shape box = shapeOf(number);
                laying.enqueue(number, box.height(), box.width());
            }
        }
        laying.layAll(sheetWidth);
    }

    // ---- light and bars

    private static int sunAt(int hour) {
        return NOON_SUN - Math.abs(hour - NOON);
    }

    private static int depthOf(int row, int hour) {
        int sun = sunAt(hour);
        return sun < 1 ? NONE : DEPTH_FACTOR * (SIDE - row) / sun;
    }

    private static int drift(int depth, int hour) {
        return Math.floorDiv((hour - NOON) * depth, 8);
    }

    private int colourBit(int row, int column) {
        int owner = cartoon.ownerAt(row, column);
        return isMade(owner) ? 1 << made.get(owner).colour : 0;
    }

    private boolean hasBar(int row) {
        return ((bars >>> row) & 1) != 0;
    }

    private int rowsOf(int panel) {
        int reached = 0;
        int rows = 0;
        for (int row = 0; row < SIDE; row++) {
            if (reached == panel) {
                rows++;
            }
            if (hasBar(row)) {
                reached++;
            }
        }
        return rows;
    }

    /** What is told of a piece but for its cells. */
    private static final class Piece {
        private final int[] heats = new int[MOST_LAYERS];
        private final int[] firings = new int[MOST_LAYERS];
        private final int[] things = new int[MOST_THINGS];
        private int colour;
        private int state = WHOLE;
        private int layers = 0;
        private int thingCount = 0;
        private boolean original = false;

        Piece(int colour) {
            this.colour = colour;
            note(CAME_ABOUT);
        }

        void note(int thing) {
            if (thingCount >= 0 && thingCount < MOST_THINGS) {
                things[thingCount] = thing;
                thingCount++;
            }
        }

        int thingAt(int place) {
            return place >= 0 && place < thingCount && place < MOST_THINGS ? things[place] : NONE;
        }

        void addLayer(int heat) {
            if (layers >= 0 && layers < MOST_LAYERS) {
                heats[layers] = heat;
                firings[layers] = UNFIRED;
                layers++;
                note(PAINTED);
            }
        }

        /** Answers how many layers are newly spoiled. */
        int bearHeat(int heat) {
            int before = layersThatAre(SPOILED);
            for (int layer = 0; layer < layers && layer < MOST_LAYERS; layer++) {
                if (heats[layer] < heat - HEAT_BORNE_ABOVE) {
                    firings[layer] = SPOILED;
                } else if (heats[layer] <= heat && firings[layer] != SPOILED) {
                    firings[layer] = FIRED;
                }
            }
            note(WAS_FIRED);
            return layersThatAre(SPOILED) - before;
        }

        int layersThatAre(int firing) {
            int count = 0;
            for (int layer = 0; layer < layers && layer < MOST_LAYERS; layer++) {
                if (firings[layer] == firing) {
                    count++;
                }
            }
            return count;
        }

        void makeAnew(int newColour) {
            colour = newColour;
            state = WHOLE;
            original = false;
            layers = 0;
        }
    }

    /** Which cell is of which piece, and what follows from that for all pieces together. */
    private static final class Cartoon {
        private final int[] owners = new int[CELLS];
        /** For each piece the set of those that must be put in before it. */
        private final long[] supports = new long[MOST_PIECES];

        /** Outside of the opening it is NONE, so that its frame is like a border between pieces. */
        int ownerAt(int row, int column) {
            if (row < 0 || row >= SIDE || column < 0 || column >= SIDE) {
                return NONE;
            }
            return owners[row * SIDE + column];
        }

        boolean holds(int piece) {
            for (int owner : owners) {
                if (owner == piece) {
                    return true;
                }
            }
            return false;
        }

        long present() {
            long set = 0;
            for (int owner : owners) {
                set |= 1L << owner;
            }
            return set;
        }

        void hand(int cell, int piece) {
            if (cell >= 0 && cell < CELLS) {
                owners[cell] = piece;
            }
        }

        void hand(Shape shape, int piece) {
            for (int cell = 0; cell < CELLS; cell++) {
                if (shape.has(cell)) {
                    owners[cell] = piece;
                }
            }
        }

        boolean touches(int cell, int piece) {
            int row = cell / SIDE;
            int column = cell % SIDE;
            return ownerAt(row - 1, column) == piece || ownerAt(row + 1, column) == piece
                    || ownerAt(row, column - 1) == piece || ownerAt(row, column + 1) == piece;
        }

        boolean adjoin(int piece, int other) {
            for (int cell = 0; cell < CELLS; cell++) {
                if (owners[cell] == piece && touches(cell, other)) {
                    return true;
                }
            }
            return false;
        }

        int leadLength() {
            int length = 0;
            for (int row = 0; row <= SIDE; row++) {
                for (int column = 0; column <= SIDE; column++) {
                    int own = ownerAt(row, column);
                    length += leadsBetween(own, ownerAt(row - 1, column));
                    length += leadsBetween(own, ownerAt(row, column - 1));
                }
            }
            return length;
        }

        int jointCount() {
            int count = 0;
            for (int row = 0; row <= SIDE; row++) {
                for (int column = 0; column <= SIDE; column++) {
                    if (leadsAtCorner(row, column) >= 3) {
                        count++;
                    }
                }
            }
            return count;
        }

        /** The corner is the upper left one of the cell. */
        private int leadsAtCorner(int row, int column) {
            int own = ownerAt(row, column);
            int left = ownerAt(row, column - 1);
            int above = ownerAt(row - 1, column);
            int across = ownerAt(row - 1, column - 1);
            return leadsBetween(own, left) + leadsBetween(own, above)
                    + leadsBetween(across, left) + leadsBetween(across, above);
        }

        private static int leadsBetween(int owner, int other) {
            return owner == other ? 0 : 1;
        }

        /** Goes on to the last piece, for if that cannot be put in, no place is taken. */
        int putInAt(int place) {
            findSupports();
            long present = present();
            long done = 0;
            int found = NONE;
            for (int turn = 0; turn < MOST_PIECES && done != present; turn++) {
                int next = lowestReady(present & ~done, done);
                if (next == NONE) {
                    return NONE;
                }
                if (turn == place) {
                    found = next;
                }
                done |= 1L << next;
            }
            return found;
        }

        private int lowestReady(long waiting, long done) {
            for (int piece = 0; piece < MOST_PIECES; piece++) {
                if (((waiting >>> piece) & 1) != 0 && (supports[piece] & ~done) == 0) {
                    return piece;
                }
            }
            return NONE;
        }

        private void findSupports() {
            Arrays.fill(supports, 0);
            for (int row = 0; row < SIDE; row++) {
                for (int column = 0; column < SIDE; column++) {
                    int own = ownerAt(row, column);
                    addSupport(own, ownerAt(row + 1, column));
                    addSupport(own, ownerAt(row, column - 1));
                }
            }
        }

        private void addSupport(int piece, int support) {
            if (piece != support && isNumber(piece) && isNumber(support)) {
                supports[piece] |= 1L << support;
            }
        }

        int crossedBehind(int row) {
            long crossed = 0;
            for (int column = 0; column < SIDE; column++) {
                int owner = ownerAt(row, column);
                if (owner != NONE && owner == ownerAt(row + 1, column)) {
                    crossed |= 1L << owner;
                }
            }
            return Long.bitCount(crossed);
        }
    }

    /** The cells of a piece or of a part of one: for each row the bits of its columns. */
    private static final class Shape {
        private final int[] rows = new int[SIDE];
        private final int[] reached = new int[SIDE];

        void trace(Cartoon cartoon, int piece) {
            for (int row = 0; row < SIDE; row++) {
                int bits = 0;
                for (int column = 0; column < SIDE; column++) {
                    if (cartoon.ownerAt(row, column) == piece) {
                        bits |= 1 << column;
                    }
                }
                rows[row] = bits;
            }
        }

        void takeSide(Shape from, int line, boolean beyond) {
            for (int row = 0; row < SIDE; row++) {
                int bits = columnsBeyond(line, row);
                rows[row] = from.rows[row] & (beyond ? bits : ~bits);
            }
        }

        private static int columnsBeyond(int line, int row) {
            if (line < SIDE) {
                return row > line ? -1 : 0;
            }
            return -2 << (line - SIDE);
        }

        boolean has(int cell) {
            return cell >= 0 && cell < CELLS && ((rows[cell / SIDE] >>> (cell % SIDE)) & 1) != 0;
        }

        void leave(int cell) {
            if (cell >= 0 && cell < CELLS) {
                rows[cell / SIDE] &= ~(1 << (cell % SIDE));
            }
        }

        int cellCount() {
            int count = 0;
            for (int bits : rows) {
                count += Integer.bitCount(bits);
            }
            return count;
        }

        /** Counts rows that are not empty: a piece is connected, so none is empty between them. */
        int height() {
            int count = 0;
            for (int bits : rows) {
                if (bits != 0) {
                    count++;
                }
            }
            return count;
        }

        /** Counts columns that are not empty, for the same reason. */
        int width() {
            int all = 0;
            for (int bits : rows) {
                all |= bits;
            }
            return Integer.bitCount(all);
        }

        int sidesAlong(int line) {
            return isRowLine(line) ? sidesBehindRow(line) : sidesBehindColumn(line - SIDE);
        }

        private int sidesBehindRow(int row) {
            return isRowLine(row) ? Integer.bitCount(rows[row] & rows[row + 1]) : 0;
        }

        private int sidesBehindColumn(int column) {
            int sides = 0;
            for (int bits : rows) {
                int pairs = bits & (bits >>> 1);
                sides += (pairs >>> column) & 1;
            }
            return sides;
        }

        boolean isGoodPart() {
            return cutFault() == CAN_BE_CUT && isOnePart();
        }

        int cutFault() {
            if (hasGap()) {
                return HAS_GAP;
            }
            return isThin() ? IS_THIN : CAN_BE_CUT;
        }

        private boolean hasGap() {
            int met = 0;
            int ended = 0;
            for (int bits : rows) {
                ended |= met & ~bits;
                met |= bits;
                // The carry goes through the first run of bits: a bit that stays is of another run.
                int later = bits & (bits + (bits & -bits));
                if (later != 0 || (ended & bits) != 0) {
                    return true;
                }
            }
            return false;
        }

        private boolean isThin() {
            for (int row = 0; row < SIDE; row++) {
                int lefts = squaresBelow(row - 1) | squaresBelow(row);
                if ((rows[row] & ~(lefts | (lefts << 1))) != 0) {
                    return true;
                }
            }
            return false;
        }

        /** The left columns of the squares of this row and the next. */
        private int squaresBelow(int row) {
            if (!isRowLine(row)) {
                return 0;
            }
            int both = rows[row] & rows[row + 1];
            return both & (both >>> 1);
        }

        /** Tells whether there are cells, and all are connected. */
        boolean isOnePart() {
            boolean grows = reachFirst();
            for (int turn = 0; turn < CELLS && grows; turn++) {
                grows = reachFarther();
            }
            return reachesAll();
        }

        private boolean reachFirst() {
            Arrays.fill(reached, 0);
            for (int row = 0; row < SIDE; row++) {
                if (rows[row] != 0) {
                    reached[row] = rows[row] & -rows[row];
                    return true;
                }
            }
            return false;
        }

        private boolean reachFarther() {
            boolean grows = false;
            for (int row = 0; row < SIDE; row++) {
                int above = row > 0 ? reached[row - 1] : 0;
                int below = row + 1 < SIDE ? reached[row + 1] : 0;
                int bits = runsWith(reached[row] | above | below, rows[row]);
                grows |= bits != reached[row];
                reached[row] = bits;
            }
            return grows;
        }

        /** Those runs of bits of a row in which a seed lies. */
        private static int runsWith(int seeds, int row) {
            int runs = seeds & row;
            for (int step = 0; step < SIDE; step++) {
                int longer = (runs | (runs << 1) | (runs >>> 1)) & row;
                if (longer == runs) {
                    return runs;
                }
                runs = longer;
            }
            return runs;
        }

        private boolean reachesAll() {
            boolean any = false;
            for (int row = 0; row < SIDE; row++) {
                if (reached[row] != rows[row]) {
                    return false;
                }
                any |= rows[row] != 0;
            }
            return any;
        }
    }

    /** Lays boxes on sheets, shelf by shelf. */
    private static final class Laying {
        private final int[] queue = new int[MOST_PIECES];
        private final int[] heights = new int[MOST_PIECES];
        private final int[] widths = new int[MOST_PIECES];
        private final int[] spots = new int[MOST_PIECES];
        private int queued;
        private int sheetsUsed;
        private int shelfBottom;
        private int shelfHeight;
        private int shelfEnd;

        void begin() {
            Arrays.fill(spots, NONE);
            queued = 0;
            sheetsUsed = 0;
        }

        /** Boxes come by rising numbers, so one goes before another only if it is larger. */
        void enqueue(int piece, int height, int width) {
            if (!isNumber(piece) || queued < 0 || queued >= MOST_PIECES) {
                return;
            }
            heights[piece] = height;
            widths[piece] = width;
            int place = queued;
            while (place > 0 && isLarger(piece, queue[place - 1])) {
                queue[place] = queue[place - 1];
                place--;
            }
            queue[place] = piece;
            queued++;
        }

        private boolean isLarger(int piece, int other) {
            if (!isNumber(piece) || !isNumber(other)) {
                return false;
            }
            if (heights[piece] != heights[other]) {
                return heights[piece] > heights[other];
            }
            return widths[piece] > widths[other];
        }

        void layAll(int sheetWidth) {
            for (int place = 0; place < queued && place < MOST_PIECES; place++) {
                layOne(queue[place], sheetWidth);
            }
        }

        /** No box is too high for an empty sheet, as the opening is not; it may be too wide. */
        private void layOne(int piece, int sheetWidth) {
            if (!isNumber(piece) || widths[piece] > sheetWidth) {
                return;
            }
            if (sheetsUsed == 0 || shelfEnd + widths[piece] > sheetWidth) {
                openShelf(heights[piece]);
            }
            spots[piece] = 10000 * (sheetsUsed - 1) + 100 * shelfBottom + shelfEnd;
            shelfEnd += widths[piece];
        }

        private void openShelf(int height) {
            int above = shelfBottom + shelfHeight;
            if (sheetsUsed == 0 || above + height > SHEET_HEIGHT) {
                sheetsUsed++;
                shelfBottom = 0;
            } else {
                shelfBottom = above;
            }
            shelfHeight = height;
            shelfEnd = 0;
        }

        int spotOf(int piece) {
            return isNumber(piece) ? spots[piece] : NONE;
        }
    }
}
