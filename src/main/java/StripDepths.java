import java.util.Arrays;

/** Hidden depth pictures of repeated strips: a sheet of dots, the planes laid on it, and what eyes see there. */
public final class StripDepths {
    public static final int INVALID_ARGUMENT = -1;
    public static final int NOT_POSSIBLE = -2;
    public static final int LIMIT_REACHED = -3;
    public static final int NOT_FOUND = -4;
    public static final int PERIOD = 0, COLORS = 1, WINDOW = 2, CROSSED = 3, GAP = 4, DISTANCE = 5;

    private static final int ROWS = 8;
    private static final int COLUMNS = 32;
    private static final int PLACES = ROWS * COLUMNS;
    private static final int PLANES = 5;
    private static final int DOTS = 8;

    private static final int SETTINGS = 6;
    private static final int[] LEAST_VALUES = {6, 2, 0, 0, 20, 10};
    private static final int[] GREATEST_VALUES = {16, 8, 3, 1, 99, 400};
    private static final int[] FIRST_VALUES = {8, 4, 1, 0, 60, 120};

    private static final int LOTS = 10000;
    private static final int LONGEST_STRIP = 24;
    private static final int LONGEST_PAD = 80;
    private static final int MOST_STATES = 4;
    private static final int LEAST_PERIOD = 6;
    private static final int GREATEST_PERIOD = 16;
    private static final int GREATEST_WINDOW = 3;
    private static final int LEAST_ECHO = 2;
    private static final int GREATEST_ECHO = 24;
    private static final int ECHOES = GREATEST_ECHO - LEAST_ECHO + 1;

    // The kinds of places, with the numbers that row() has for them.
    private static final int FREE = 0;
    private static final int COVERED = 1;
    private static final int LOOSE = 2;
    private static final int TORN = 3;
    private static final int RIGHT = 4;
    private static final int WRONG = 5;
    private static final int BLURRED = 6;
    private static final int SMUDGED = 7;

    private final Sheet now = new Sheet();
    private final Sheet snapshot = new Sheet();
    private boolean hasSnapshot;
    private final History history = new History();
    private final Pad pad = new Pad();

    // Working rows: made once, so that no call makes anything.
    private final Look look = new Look();
    private final Look otherLook = new Look();
    private final int[] views = new int[PLACES];
    private final int[] ranked = new int[ECHOES];

    public StripDepths() {
    }

    // ---- planes

    public int lay(int top, int left, int bottom, int right, int plane) {
        if (!isRow(top) || !isRow(bottom) || bottom < top) {
            return INVALID_ARGUMENT;
        }
        if (!isColumn(left) || !isColumn(right) || right < left || !isPlane(plane)) {
            return INVALID_ARGUMENT;
        }
        Sheet before = history.record(now);
        now.layPlane(top, left, bottom, right, plane);
        return now.otherPlanesThan(before);
    }

    public int shift(int row, int by) {
        if (!isRow(row) || by <= -COLUMNS || by >= COLUMNS) {
            return INVALID_ARGUMENT;
        }
        history.record(now);
        look.takeRow(now, row);
        int above = 0;
        for (int column = 0; column < COLUMNS; column++) {
            int from = column - by;
            int plane = isColumn(from) ? look.planes[from] : 0;
            now.planes[placeOf(row, column)] = plane;
            if (plane > 0) {
                above++;
            }
        }
        return above;
    }

    public int swap(int row, int other) {
        if (!isRow(row) || !isRow(other) || row == other) {
            return INVALID_ARGUMENT;
        }
        history.record(now);
        look.takeRow(now, row);
        otherLook.takeRow(now, other);
        look.putRow(now, other);
        otherLook.putRow(now, row);
        int different = 0;
        for (int column = 0; column < COLUMNS; column++) {
            if (look.planes[column] != otherLook.planes[column]) {
                different++;
            }
        }
        return different;
    }

    public int turn(int row) {
        if (!isRow(row)) {
            return INVALID_ARGUMENT;
        }
        history.record(now);
        look.takeRow(now, row);
        look.turnRound();
        look.putRow(now, row);
        return rightPlaces(row);
    }

    // ---- dots

    public int print(int row) {
        if (!isRow(row)) {
            return INVALID_ARGUMENT;
        }
        Sheet before = history.record(now);
        printRow(row);
        return now.otherDotsThan(before);
    }

    public int printAll() {
        Sheet before = history.record(now);
        for (int row = 0; row < ROWS; row++) {
            printRow(row);
        }
        return now.otherDotsThan(before);
    }

    public int paint(int row, int column, int dot) {
        if (!isRow(row) || !isColumn(column) || !isDot(dot)) {
            return INVALID_ARGUMENT;
        }
        history.record(now);
        int place = placeOf(row, column);
        int had = now.dots[place];
        if (now.remembered[place] == NOT_FOUND) {
            now.remembered[place] = had;
        }
        now.dots[place] = dot;
        return had;
    }

    public int wipe(int row) {
        if (!isRow(row)) {
            return INVALID_ARGUMENT;
        }
        history.record(now);
        int smudges = 0;
        for (int column = 0; column < COLUMNS; column++) {
            int place = placeOf(row, column);
            if (now.remembered[place] != NOT_FOUND) {
                now.dots[place] = now.remembered[place];
                now.remembered[place] = NOT_FOUND;
                smudges++;
            }
        }
        return smudges;
    }

    public int set(int what, int value) {
        if (what < 0 || what >= SETTINGS) {
            return INVALID_ARGUMENT;
        }
        if (value < LEAST_VALUES[what] || value > GREATEST_VALUES[what]) {
            return INVALID_ARGUMENT;
        }
        history.record(now);
        int had = now.settings[what];
        now.settings[what] = value;
        return had;
    }

    public int lot(int x) {
        if (x < 0 || x >= LOTS) {
            return INVALID_ARGUMENT;
        }
        history.record(now);
        int had = now.lot;
        now.lot = x;
        return had;
    }

    // ---- texts

    public int append(int code) {
        if (code < 33 || code > 126) {
            return INVALID_ARGUMENT;
        }
        return pad.add(code) ? pad.length : LIMIT_REACHED;
    }

    public int clear() {
        int had = pad.length;
        pad.length = 0;
        return had;
    }

    public int fault(int way) {
        switch (way) {
            case 0:
                return pad.faultAsShapes();
            case 1:
                return pad.faultAsStrip();
            default:
                return INVALID_ARGUMENT;
        }
    }

    public int draw() {
        if (pad.faultAsShapes() != NOT_FOUND) {
            return NOT_POSSIBLE;
        }
        Sheet before = history.record(now);
        pad.layShapes(now);
        pad.length = 0;
        return now.otherPlanesThan(before);
    }

    public int wind() {
        if (pad.faultAsStrip() != NOT_FOUND) {
            return NOT_POSSIBLE;
        }
        history.record(now);
        pad.putStrip(now);
        pad.length = 0;
        return now.stripLength;
    }

    public int unwind() {
        if (now.stripLength == 0) {
            return NOT_POSSIBLE;
        }
        history.record(now);
        int had = now.stripLength;
        now.stripLength = 0;
        return had;
    }

    // ---- looks; nothing is changed

    public int at(int row, int column, int what) {
        if (!isRow(row) || !isColumn(column)) {
            return INVALID_ARGUMENT;
        }
        look.study(now, row);
        switch (what) {
            case 0:
                return look.planes[column];
            case 1:
                return look.dots[column];
            case 2:
                return look.seen[column];
            case 3:
                return look.boundTo(column);
            case 4:
                return look.binders[column];
            case 5:
                return look.chains[column];
            case 6:
                return look.placesOfChain(look.chains[column]);
            case 7:
                return look.remembered[column];
            default:
                return INVALID_ARGUMENT;
        }
    }

    public int fits(int row, int column, int plane) {
        if (!isRow(row) || !isColumn(column) || !isPlane(plane)) {
            return INVALID_ARGUMENT;
        }
        look.takeRow(now, row);
        return look.isFitting(column, plane) ? 1 : 0;
    }

    public int row(int row, int what) {
        if (!isRow(row) || what < 0 || what > 10) {
            return INVALID_ARGUMENT;
        }
        look.study(now, row);
        switch (what) {
            case 8:
                return look.longestChain();
            case 9:
                return look.differentDots();
            case 10:
                return look.changesOfPlane();
            default:
                return look.placesOfKind(what);
        }
    }

    public int echo(int row, int reach) {
        if (!isRow(row) || reach < LEAST_ECHO || reach > GREATEST_ECHO) {
            return INVALID_ARGUMENT;
        }
        look.takeRow(now, row);
        return look.echoOf(reach);
    }

    public int echoAt(int row, int place) {
        if (!isRow(row) || place < 0 || place >= ECHOES) {
            return INVALID_ARGUMENT;
        }
        look.takeRow(now, row);
        for (int i = 0; i < ECHOES; i++) {
            ranked[i] = look.echoOf(LEAST_ECHO + i);
        }
        return LEAST_ECHO + rankedAt(ECHOES, place);
    }

    public int faulty(int place) {
        if (!isRow(place)) {
            return INVALID_ARGUMENT;
        }
        for (int row = 0; row < ROWS; row++) {
            look.study(now, row);
            int blurred = look.placesOfKind(BLURRED);
            int faults = blurred + look.placesOfKind(WRONG);
            // One number for both, as a row has at most COLUMNS blurred places.
            ranked[row] = faults * (COLUMNS + 1) + blurred;
        }
        return rankedAt(ROWS, place);
    }

    public int plane(int plane, int what) {
        if (!isPlane(plane) || what < 0 || what > 3) {
            return INVALID_ARGUMENT;
        }
        int number = 0;
        for (int row = 0; row < ROWS; row++) {
            look.study(now, row);
            number += look.numberOfPlane(plane, what);
        }
        return number;
    }

    public int pictures() {
        for (int row = 0; row < ROWS; row++) {
            look.study(now, row);
            System.arraycopy(look.seen, 0, views, placeOf(row, 0), COLUMNS);
        }
        int different = 0;
        for (int row = 0; row < ROWS; row++) {
            if (isNewPicture(row)) {
                different++;
            }
        }
        return different;
    }

    public int count(int what) {
        if (what < 0 || what > 18) {
            return INVALID_ARGUMENT;
        }
        if (what >= 13) {
            return now.settings[what - 13];
        }
        switch (what) {
            case 0:
                return now.planesAboveZero();
            case 9:
                return now.lot;
            case 10:
                return now.stripLength;
            case 11:
                return pad.length;
            case 12:
                return history.states;
            default:
                return allPlacesOfKind(what - 1);
        }
    }

    public float away(int plane) {
        if (!isPlane(plane)) {
            return INVALID_ARGUMENT;
        }
        int reach = now.settings[PERIOD] - plane;
        int gap = now.settings[GAP];
        int across = now.settings[CROSSED] == 1 ? gap + reach : gap - reach;
        // The ranges of GAP and PERIOD keep it above 0.
        return across > 0 ? (float) (now.settings[DISTANCE] * reach) / (float) across : INVALID_ARGUMENT;
    }

    public double clearness(int row) {
        if (!isRow(row)) {
            return INVALID_ARGUMENT;
        }
        return (double) rightPlaces(row) / COLUMNS;
    }

    // ---- what would be; nothing is changed

    public int ifPainted(int row, int column, int dot, int what) {
        if (!isRow(row) || !isColumn(column) || !isDot(dot)) {
            return INVALID_ARGUMENT;
        }
        look.study(now, row);
        otherLook.takeRow(now, row);
        otherLook.dots[column] = dot;
        otherLook.watch();
        switch (what) {
            case 0:
                return COLUMNS - look.placesSeenAs(otherLook);
            case 1:
                return otherLook.placesOfKind(RIGHT);
            case 2:
                return look.farthestSeenOtherwise(otherLook, column);
            default:
                return INVALID_ARGUMENT;
        }
    }

    public int ifPrinted(int row, int period) {
        if (!isRow(row) || period < LEAST_PERIOD || period > GREATEST_PERIOD) {
            return INVALID_ARGUMENT;
        }
        return rightIfPrinted(row, period);
    }

    public int shortest(int row) {
        if (!isRow(row)) {
            return INVALID_ARGUMENT;
        }
        int best = LEAST_PERIOD;
        int most = -1;
        for (int period = LEAST_PERIOD; period <= GREATEST_PERIOD; period++) {
            int right = rightIfPrinted(row, period);
            if (right > most) {
                most = right;
                best = period;
            }
        }
        return best;
    }

    public int bestWindow(int row) {
        if (!isRow(row)) {
            return INVALID_ARGUMENT;
        }
        look.takeRow(now, row);
        int best = 0;
        int most = -1;
        for (int window = 0; window <= GREATEST_WINDOW; window++) {
            look.window = window;
            look.watch();
            int right = look.placesOfKind(RIGHT);
            if (right > most) {
                most = right;
                best = window;
            }
        }
        return best;
    }

    public int alike(int row, int other) {
        if (!isRow(row) || !isRow(other)) {
            return INVALID_ARGUMENT;
        }
        look.study(now, row);
        otherLook.study(now, other);
        return look.placesSeenAs(otherLook);
    }

    // ---- history, snapshot

    public int undo() {
        return history.takeBack(now) ? history.states : NOT_POSSIBLE;
    }

    public int save() {
        snapshot.copyFrom(now);
        hasSnapshot = true;
        return allPlacesOfKind(RIGHT);
    }

    public int restore() {
        if (!hasSnapshot) {
            return NOT_POSSIBLE;
        }
        history.record(now);
        now.copyFrom(snapshot);
        return allPlacesOfKind(RIGHT);
    }

    // ---- what the calls share

    private static boolean isRow(int row) {
        return row >= 0 && row < ROWS;
    }

    private static boolean isColumn(int column) {
        return column >= 0 && column < COLUMNS;
    }

    private static boolean isPlane(int plane) {
        return plane >= 0 && plane < PLANES;
    }

    private static boolean isDot(int dot) {
        return dot >= 0 && dot < DOTS;
    }

    private static int placeOf(int row, int column) {
        return row * COLUMNS + column;
    }

    private void printRow(int row) {
        look.takeRow(now, row);
        now.lot = look.printFrom(now);
        look.forgetSmudges();
        look.putRow(now, row);
    }

    private int rightIfPrinted(int row, int period) {
        look.takeRow(now, row);
        look.period = period;
        look.printFrom(now);
        look.watch();
        return look.placesOfKind(RIGHT);
    }

    private int rightPlaces(int row) {
        look.study(now, row);
        return look.placesOfKind(RIGHT);
    }

    private int allPlacesOfKind(int kind) {
        int number = 0;
        for (int row = 0; row < ROWS; row++) {
            look.study(now, row);
            number += look.placesOfKind(kind);
        }
        return number;
    }

    /** Which of the first ranked numbers has the place: the greatest first, of several the one ahead. */
    private int rankedAt(int length, int place) {
        for (int i = 0; i < length; i++) {
            if (rankOf(i, length) == place) {
                return i;
            }
        }
        return 0;
    }

    private int rankOf(int index, int length) {
        int ahead = 0;
        for (int i = 0; i < length; i++) {
            if (ranked[i] > ranked[index] || ranked[i] == ranked[index] && i < index) {
                ahead++;
            }
        }
        return ahead;
    }

    private boolean isNewPicture(int row) {
        for (int above = 0; above < row; above++) {
            if (isSameView(row, above)) {
                return false;
            }
        }
        return true;
    }

    private boolean isSameView(int row, int other) {
        for (int column = 0; column < COLUMNS; column++) {
            if (views[placeOf(row, column)] != views[placeOf(other, column)]) {
                return false;
            }
        }
        return true;
    }

    /** All that the history and the snapshot hold. */
    private static final class Sheet {
        final int[] planes = new int[PLACES];
        final int[] dots = new int[PLACES];
        /** The dots that smudges remember; NOT_FOUND where there is no smudge. */
        final int[] remembered = new int[PLACES];
        final int[] settings = new int[SETTINGS];
        final int[] strip = new int[LONGEST_STRIP];
        int stripLength;
        int lot = 1;

        Sheet() {
            Arrays.fill(remembered, NOT_FOUND);
            System.arraycopy(FIRST_VALUES, 0, settings, 0, SETTINGS);
        }

        void copyFrom(Sheet other) {
            System.arraycopy(other.planes, 0, planes, 0, PLACES);
            System.arraycopy(other.dots, 0, dots, 0, PLACES);
            System.arraycopy(other.remembered, 0, remembered, 0, PLACES);
            System.arraycopy(other.settings, 0, settings, 0, SETTINGS);
            System.arraycopy(other.strip, 0, strip, 0, LONGEST_STRIP);
            stripLength = other.stripLength;
            lot = other.lot;
        }

        void layPlane(int top, int left, int bottom, int right, int plane) {
            for (int row = top; row <= bottom && isRow(row); row++) {
                for (int column = left; column <= right && isColumn(column); column++) {
                    planes[placeOf(row, column)] = plane;
                }
            }
        }

        int otherPlanesThan(Sheet before) {
            return differences(planes, before.planes);
        }

        int otherDotsThan(Sheet before) {
            return differences(dots, before.dots);
        }

        private static int differences(int[] some, int[] others) {
            int different = 0;
            for (int i = 0; i < some.length && i < others.length; i++) {
                if (some[i] != others[i]) {
                    different++;
                }
            }
            return different;
        }

        int planesAboveZero() {
            int above = 0;
            for (int i = 0; i < PLACES; i++) {
                if (planes[i] > 0) {
                    above++;
                }
            }
            return above;
        }
    }

    /** The states before the latest changes, the oldest one first. */
    private static final class History {
        private final Sheet[] kept = new Sheet[MOST_STATES];
        int states;

        History() {
            for (int i = 0; i < MOST_STATES; i++) {
                kept[i] = new Sheet();
            }
        }

        /** Answers the state that it records, for what has changed against it. */
        Sheet record(Sheet now) {
            if (states >= MOST_STATES) {
                dropOldest();
            }
            Sheet latest = kept[states];
            latest.copyFrom(now);
            states++;
            return latest;
        }

        private void dropOldest() {
            Sheet oldest = kept[0];
            for (int i = 1; i < MOST_STATES; i++) {
                kept[i - 1] = kept[i];
            }
            // It is written over by the next state.
            kept[MOST_STATES - 1] = oldest;
            states = MOST_STATES - 1;
        }

        boolean takeBack(Sheet now) {
            if (states <= 0) {
                return false;
            }
            states--;
            now.copyFrom(kept[states]);
            return true;
        }
    }

    /** A row off the sheet, with the settings that it is looked at with: what would be is tried on it. */
    private static final class Look {
        final int[] planes = new int[COLUMNS];
        final int[] dots = new int[COLUMNS];
        final int[] remembered = new int[COLUMNS];
        /** The planes that are seen; NOT_FOUND where it is blurred. */
        final int[] seen = new int[COLUMNS];
        /** How many places are bound to each place. */
        final int[] binders = new int[COLUMNS];
        /** The column of the free place of each place's chain. */
        final int[] chains = new int[COLUMNS];
        int period;
        int window;
        boolean crossed;

        void takeRow(Sheet sheet, int row) {
            int first = placeOf(row, 0);
            System.arraycopy(sheet.planes, first, planes, 0, COLUMNS);
            System.arraycopy(sheet.dots, first, dots, 0, COLUMNS);
            System.arraycopy(sheet.remembered, first, remembered, 0, COLUMNS);
            period = sheet.settings[PERIOD];
            window = sheet.settings[WINDOW];
            crossed = sheet.settings[CROSSED] == 1;
        }

        void putRow(Sheet sheet, int row) {
            int first = placeOf(row, 0);
            System.arraycopy(planes, 0, sheet.planes, first, COLUMNS);
            System.arraycopy(dots, 0, sheet.dots, first, COLUMNS);
            System.arraycopy(remembered, 0, sheet.remembered, first, COLUMNS);
        }

        void study(Sheet sheet, int row) {
            takeRow(sheet, row);
            bind();
            watch();
        }

        void turnRound() {
            reverse(planes);
            reverse(dots);
            reverse(remembered);
        }

        private static void reverse(int[] places) {
            for (int i = 0, j = places.length - 1; i < j; i++, j--) {
                int one = places[i];
                places[i] = places[j];
                places[j] = one;
            }
        }

        void forgetSmudges() {
            Arrays.fill(remembered, NOT_FOUND);
        }

        /** Prints the row with the strip or the lot of the sheet, and answers the lot behind it. */
        int printFrom(Sheet sheet) {
            int lot = sheet.lot;
            int next = 0;
            for (int column = 0; column < COLUMNS; column++) {
                int to = boundTo(column);
                if (to != NOT_FOUND) {
                    dots[column] = dots[to];
                } else if (sheet.stripLength > 0) {
                    dots[column] = sheet.strip[next];
                    next = next + 1 < sheet.stripLength ? next + 1 : 0;
                } else {
                    lot = (421 * lot + 1663) % LOTS;
                    int colors = sheet.settings[COLORS];
                    dots[column] = colors > 0 ? lot % colors : 0;
                }
            }
            return lot;
        }

        /** The column to which a place is bound; NOT_FOUND if it is free. */
        int boundTo(int column) {
            int to = column - (period - planes[column]);
            return to >= 0 && to < column ? to : NOT_FOUND;
        }

        private void bind() {
            Arrays.fill(binders, 0);
            for (int column = 0; column < COLUMNS; column++) {
                int to = boundTo(column);
                if (to == NOT_FOUND) {
                    chains[column] = column;
                } else {
                    chains[column] = chains[to];
                    binders[to]++;
                }
            }
        }

        void watch() {
            int had = 0;
            for (int column = 0; column < COLUMNS; column++) {
                int taken = nearestFitting(column, had);
                if (taken == NOT_FOUND) {
                    seen[column] = NOT_FOUND;
                } else {
                    had = taken;
                    seen[column] = crossed ? PLANES - 1 - taken : taken;
                }
            }
        }

        private int nearestFitting(int column, int had) {
            for (int off = 0; off < PLANES; off++) {
                // The greater one first: it is taken when both are as far away.
                if (had + off < PLANES && isFitting(column, had + off)) {
                    return had + off;
                }
                if (had - off >= 0 && isFitting(column, had - off)) {
                    return had - off;
                }
            }
            return NOT_FOUND;
        }

        boolean isFitting(int column, int plane) {
            int reach = period - plane;
            if (reach < 0 || column < reach) {
                return false;
            }
            int first = Math.max(column - window, reach);
            int last = Math.min(column + window, COLUMNS - 1);
            for (int k = first; k <= last; k++) {
                if (dots[k] != dots[k - reach]) {
                    return false;
                }
            }
            return true;
        }

        int placesOfKind(int kind) {
            int number = 0;
            for (int column = 0; column < COLUMNS; column++) {
                if (isOfKind(column, kind)) {
                    number++;
                }
            }
            return number;
        }

        private boolean isOfKind(int column, int kind) {
            switch (kind) {
                case FREE:
                    return boundTo(column) == NOT_FOUND;
                case COVERED:
                    return binders[column] >= 2;
                case LOOSE:
                    return binders[column] == 0;
                case TORN:
                    return isTorn(column);
                case RIGHT:
                    return seen[column] == planes[column];
                case WRONG:
                    return seen[column] != NOT_FOUND && seen[column] != planes[column];
                case BLURRED:
                    return seen[column] == NOT_FOUND;
                case SMUDGED:
                    return remembered[column] != NOT_FOUND;
                default:
                    return false;
            }
        }

        private boolean isTorn(int column) {
            int to = boundTo(column);
            return to != NOT_FOUND && dots[column] != dots[to];
        }

        int placesOfChain(int chain) {
            int number = 0;
            for (int column = 0; column < COLUMNS; column++) {
                if (chains[column] == chain) {
                    number++;
                }
            }
            return number;
        }

        int longestChain() {
            int longest = 0;
            for (int column = 0; column < COLUMNS; column++) {
                longest = Math.max(longest, placesOfChain(column));
            }
            return longest;
        }

        int differentDots() {
            int met = 0;
            for (int column = 0; column < COLUMNS; column++) {
                met |= 1 << dots[column];
            }
            return Integer.bitCount(met);
        }

        int changesOfPlane() {
            int changes = 0;
            int latest = NOT_FOUND;
            for (int column = 0; column < COLUMNS; column++) {
                if (seen[column] != NOT_FOUND) {
                    if (latest != NOT_FOUND && seen[column] != latest) {
                        changes++;
                    }
                    latest = seen[column];
                }
            }
            return changes;
        }

        int echoOf(int reach) {
            int same = 0;
            for (int column = Math.max(reach, 0); column < COLUMNS; column++) {
                if (dots[column] == dots[column - reach]) {
                    same++;
                }
            }
            return same;
        }

        /** The number that plane() has for what, of this row alone. */
        int numberOfPlane(int plane, int what) {
            int laid = 0;
            int met = 0;
            int both = 0;
            for (int column = 0; column < COLUMNS; column++) {
                boolean isLaid = planes[column] == plane;
                boolean isSeen = seen[column] == plane;
                laid += isLaid ? 1 : 0;
                met += isSeen ? 1 : 0;
                both += isLaid && isSeen ? 1 : 0;
            }
            switch (what) {
                case 0:
                    return laid;
                case 1:
                    return met;
                case 2:
                    return both;
                default:
                    return laid > 0 ? 1 : 0;
            }
        }

        int placesSeenAs(Look other) {
            int same = 0;
            for (int column = 0; column < COLUMNS; column++) {
                if (seen[column] == other.seen[column]) {
                    same++;
                }
            }
            return same;
        }

        /** How far from a column the farthest place is that the other look sees otherwise. */
        int farthestSeenOtherwise(Look other, int from) {
            int farthest = NOT_FOUND;
            for (int column = 0; column < COLUMNS; column++) {
                if (seen[column] != other.seen[column]) {
                    farthest = Math.max(farthest, Math.abs(column - from));
                }
            }
            return farthest;
        }
    }

    private static final class Pad {
        private final int[] codes = new int[LONGEST_PAD];
        private final ShapeReader reader = new ShapeReader();
        int length;

        boolean add(int code) {
            if (length >= LONGEST_PAD) {
                return false;
            }
            codes[length] = code;
            length++;
            return true;
        }

        int faultAsStrip() {
            for (int i = 0; i < length; i++) {
                if (i >= LONGEST_STRIP || !isDot(codes[i] - '0')) {
                    return i;
                }
            }
            return length > 0 ? NOT_FOUND : length;
        }

        void putStrip(Sheet sheet) {
            int dots = Math.min(length, LONGEST_STRIP);
            for (int i = 0; i < dots; i++) {
                sheet.strip[i] = codes[i] - '0';
            }
            sheet.stripLength = dots;
        }

        int faultAsShapes() {
            reader.begin();
            for (int i = 0; i < length; i++) {
                if (!reader.takes(codes[i])) {
                    return i;
                }
            }
            return reader.isComplete() ? NOT_FOUND : length;
        }

        /** Lays the shapes of a pad that has no fault as shapes. */
        void layShapes(Sheet sheet) {
            reader.begin();
            for (int i = 0; i < length; i++) {
                if (reader.takes(codes[i]) && reader.isComplete()) {
                    sheet.layPlane(reader.top, reader.left, reader.bottom, reader.right, reader.plane);
                }
            }
        }
    }

    /** Reads shapes, one character after the other. */
    private static final class ShapeReader {
        private static final int AHEAD_OF_TOP = 0;
        private static final int BEHIND_TOP = 1;
        private static final int AHEAD_OF_BOTTOM = 2;
        private static final int BEHIND_BOTTOM = 3;
        private static final int AHEAD_OF_LEFT = 4;
        private static final int IN_LEFT = 5;
        private static final int AHEAD_OF_RIGHT = 6;
        private static final int IN_RIGHT = 7;
        private static final int AHEAD_OF_PLANE = 8;
        private static final int BEHIND_PLANE = 9;

        int top;
        int bottom;
        int left;
        int right;
        int plane;
        private int stage;

        void begin() {
            stage = AHEAD_OF_TOP;
        }

        boolean isComplete() {
            return stage == BEHIND_PLANE;
        }

        /** False if no shapes go on with this character: then it reads no further. */
        boolean takes(int code) {
            int digit = code >= '0' && code <= '9' ? code - '0' : NOT_FOUND;
            switch (stage) {
                case AHEAD_OF_TOP:
                    return takesTop(digit);
                case BEHIND_TOP:
                    return code == '-' ? goesOn(AHEAD_OF_BOTTOM) : code == ',' && goesOn(AHEAD_OF_LEFT);
                case AHEAD_OF_BOTTOM:
                    return takesBottom(digit);
                case BEHIND_BOTTOM:
                    return code == ',' && goesOn(AHEAD_OF_LEFT);
                case AHEAD_OF_LEFT:
                    return digit != NOT_FOUND && takesLeft(digit);
                case IN_LEFT:
                    return takesBehindLeft(code, digit);
                case AHEAD_OF_RIGHT:
                    return digit != NOT_FOUND && takesFirstOfRight(digit);
                case IN_RIGHT:
                    return takesBehindRight(code, digit);
                case AHEAD_OF_PLANE:
                    return takesPlane(digit);
                case BEHIND_PLANE:
                    return code == ';' && goesOn(AHEAD_OF_TOP);
                default:
                    return false;
            }
        }

        private boolean goesOn(int next) {
            stage = next;
            return true;
        }

        private boolean takesTop(int digit) {
            if (!isRow(digit)) {
                return false;
            }
            top = digit;
            bottom = digit;
            return goesOn(BEHIND_TOP);
        }

        private boolean takesBottom(int digit) {
            if (!isRow(digit) || digit < top) {
                return false;
            }
            bottom = digit;
            return goesOn(BEHIND_BOTTOM);
        }

        private boolean takesLeft(int number) {
            if (!isColumn(number)) {
                return false;
            }
            left = number;
            right = number;
            return goesOn(IN_LEFT);
        }

        private boolean takesBehindLeft(int code, int digit) {
            if (code == '-') {
                return goesOn(AHEAD_OF_RIGHT);
            }
            if (code == ':') {
                return goesOn(AHEAD_OF_PLANE);
            }
            return digit != NOT_FOUND && left > 0 && takesLeft(10 * left + digit);
        }

        private boolean takesFirstOfRight(int digit) {
            if (greatestFrom(digit) < left) {
                return false;
            }
            right = digit;
            return goesOn(IN_RIGHT);
        }

        /** The greatest column whose number begins with a digit. */
        private static int greatestFrom(int digit) {
            if (digit == 0 || !isColumn(10 * digit)) {
                return digit;
            }
            return Math.min(10 * digit + 9, COLUMNS - 1);
        }

        private boolean takesBehindRight(int code, int digit) {
            if (code == ':') {
                return right >= left && goesOn(AHEAD_OF_PLANE);
            }
            int number = 10 * right + digit;
            if (digit == NOT_FOUND || right == 0 || !isColumn(number) || number < left) {
                return false;
            }
            right = number;
            return goesOn(IN_RIGHT);
        }

        private boolean takesPlane(int digit) {
            if (!isPlane(digit)) {
                return false;
            }
            plane = digit;
            return goesOn(BEHIND_PLANE);
        }
    }
}
