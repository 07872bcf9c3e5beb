import java.util.Arrays;

/** A block of overlapped pictures: its text, its rounds, its whole, its doubts, its ties, its images. */
public final class PictureBlock {
    public static final int NONE = -1;
    public static final int NOTHING = -1000000000;

    private static final int MOST_BYTES = 1600;
    private static final int MOST_STATEMENTS = 120;
    private static final int MOST_PICTURES = 12;
    private static final int MOST_POINTS = 20;
    private static final int MOST_ROWS = 60;
    private static final int MOST_STRIPS = 6;
    private static final int MOST_LETTERS = 6;
    private static final int MOST_DIGITS = 4;
    private static final int MOST_MEASURED = 9999;
    private static final int MOST_DROPPED = 20;
    private static final int MOST_IMAGE = 2 + 9 * MOST_PICTURES + 8 * MOST_POINTS + 8 * MOST_STRIPS + MOST_ROWS;
    private static final int MOST_UNKNOWN = MOST_PICTURES + MOST_POINTS + MOST_STRIPS;
    private static final int FAR = 100000000;
    private static final int HUNDREDTHS = 100;
    private static final int ANY = 4;
    private static final long PRIME = 1000003L;

    private static final int STRIP = 0;
    private static final int PICTURE = 1;
    private static final int POINT = 2;
    private static final int ROW = 3;
    private static final int CONTROL = 4;
    private static final int CENTRE = 5;
    // centres have no number of their own: each picture has one at most, so one more is a fault of its name
    private static final int[] MOST = {6, 12, 20, 60, 10};

    private final int[] tape;
    private int taped;
    private final Told told;
    private final Told draft;
    private final Reader reader;
    private final Stand stand;
    private final Stand aside;
    private final Stand other;
    private final Starter starter;
    private final Mover mover;
    private final Solver solver;
    private final Net net;
    private final Ties ties;
    private final Imager imager;
    private final int[] droppedHere;
    private int faultKind;
    private int faultPlace;

    public PictureBlock() {
        tape = new int[MOST_BYTES];
        taped = 0;
        told = new Told();
        draft = new Told();
        reader = new Reader(tape, draft);
        stand = new Stand(told);
        aside = new Stand(told);
        other = new Stand(told);
        starter = new Starter(told, stand);
        mover = new Mover(told, stand);
        solver = new Solver(told, stand);
        net = new Net(told, stand);
        ties = new Ties(told, stand);
        imager = new Imager(told);
        droppedHere = new int[MOST_ROWS];
        faultKind = 0;
        faultPlace = NONE;
    }

    public int feed(int a, int b, int c, int d, int e) {
        if (taped + 20 > MOST_BYTES) return NONE;
        tapeNumber(a);
        tapeNumber(b);
        tapeNumber(c);
        tapeNumber(d);
        tapeNumber(e);
        return taped;
    }

    private void tapeNumber(int number) {
        for (int shift = 24; shift >= 0; shift -= 8) {
            tape[taped] = (number >>> shift) & 255;
            taped++;
        }
    }

    public boolean end(int n) {
        if (n < 0 || n > taped) return false;
        taped = n;
        return true;
    }

    public int block() {
        int statements = reader.read(taped);
        taped = 0;
        faultKind = reader.fault;
        faultPlace = reader.place;
        if (statements == NONE) return NONE;
        told.takeFrom(draft);
        stand.sets = 3;
        Arrays.fill(stand.dropped, 0);
        starter.begin();
        return statements;
    }

    public int fault(int what) {
        if (what == 0) return faultKind;
        if (what == 1) return faultPlace;
        return NONE;
    }

    public int has(int what) {
        if (what >= STRIP && what <= CENTRE) return told.count[what];
        if (what == 6) return countDropped();
        if (what == 7) return stand.sets;
        if (what == 8) return stand.countFixed();
        return NONE;
    }

    private int countDropped() {
        int dropped = 0;
        for (int r = 0; r < told.count[ROW]; r++) {
            if (!stand.uses(r)) dropped++;
        }
        return dropped;
    }

    public int letter(int kind, int which, int k) {
        if (kind < STRIP || kind > POINT || !told.exists(kind, which)) return NONE;
        if (k < 0 || k >= MOST_LETTERS) return NONE;
        int left = told.name[kind][which];
        for (int last = MOST_LETTERS - 1; last > k; last--) left /= 27;
        return left % 27;
    }

    public int picture(int picture, int what) {
        if (!told.exists(PICTURE, picture)) return NOTHING;
        switch (what) {
            case 0: return told.strip[picture];
            case 1: return stand.turn[picture];
            case 2: return told.turn[picture] == ANY ? 1 : 0;
            case 3: return stand.pictureAt[0][picture];
            case 4: return stand.pictureAt[1][picture];
            case 5: return stand.countRows(told.rowPicture, picture);
            case 6: return net.isPictureLoose(picture) ? 1 : 0;
            case 7: return told.centreWeight[picture] > 0 ? 1 : 0;
            default: return NOTHING;
        }
    }

    public int point(int point, int what) {
        if (!told.exists(POINT, point)) return NOTHING;
        switch (what) {
            case 0: return stand.pointAt[0][point];
            case 1: return stand.pointAt[1][point];
            case 2: return stand.countRows(told.rowPoint, point);
            case 3: return told.controlSet[point] != 0 ? 1 : 0;
            case 4: return stand.isFixed(point) ? 1 : 0;
            case 5: return net.isPointLoose(point) ? 1 : 0;
            default: return NOTHING;
        }
    }

    public int row(int row, int what) {
        if (!told.exists(ROW, row)) return NOTHING;
        switch (what) {
            case 0: return told.rowPicture[row];
            case 1: return told.rowPoint[row];
            case 2: return told.rowAt[0][row];
            case 3: return told.rowAt[1][row];
            case 4: return told.rowWeight[row];
            case 5: return stand.dropped[row];
            case 6: return stand.miss(row, 0);
            case 7: return stand.miss(row, 1);
            case 8: return net.canShow(row) ? 1 : 0;
            default: return NOTHING;
        }
    }

    public int drift(int strip, int axis) {
        if (!told.exists(STRIP, strip) || !isAxis(axis) || !told.drifts(strip)) return NOTHING;
        return stand.drift[axis][strip];
    }

    private static boolean isAxis(int axis) {
        return axis == 0 || axis == 1;
    }

    // ---- rounds

    public int start() {
        return starter.begin();
    }

    public int rounds(int n) {
        if (n < 1 || n > 500) return NONE;
        return mover.settle(n);
    }

    public long sum() {
        return stand.squares();
    }

    public int whole(int kind, int which, int axis) {
        if (kind < STRIP || kind > POINT || !isAxis(axis)) return NONE;
        if (kind == 0 && told.exists(PICTURE, which)) return solver.solveFor(which, axis);
        if (kind == 1 && told.exists(POINT, which)) {
            if (stand.isFixed(which)) return (int) Math.floorMod((long) stand.pointAt[axis][which], PRIME);
            return solver.solveFor(MOST_PICTURES + which, axis);
        }
        if (kind == 2 && told.exists(STRIP, which)) return solver.solveFor(MOST_PICTURES + MOST_POINTS + which, axis);
        return NONE;
    }

    public int sets(int sets) {
        if (sets < 0 || sets > 3) return NONE;
        stand.sets = sets;
        stand.placeFixed();
        return stand.countFixed();
    }

    // ---- what hangs together

    public int parts() {
        return net.countParts();
    }

    public int hang(int first, int second) {
        if (!told.exists(PICTURE, first) || !told.exists(PICTURE, second)) return NONE;
        return net.isJoined(first, second) ? 1 : 0;
    }

    public int blind() {
        int unseen = 0;
        for (int r = 0; r < told.count[ROW]; r++) {
            if (stand.uses(r) && !net.canShow(r)) unseen++;
        }
        return unseen;
    }

    public int needs(int row) {
        if (!told.exists(ROW, row) || !stand.uses(row)) return NONE;
        return net.countLoose(row) - net.countLoose(NONE);
    }

    // ---- doubt

    public long doubt(int row) {
        if (!told.exists(ROW, row)) return NONE;
        return stand.doubtOf(row);
    }

    public int worst() {
        return findWorst();
    }

    private int findWorst() {
        int found = NONE;
        long greatest = NONE;
        for (int r = 0; r < told.count[ROW]; r++) {
            long doubt = stand.doubtOf(r);
            if (doubt > greatest && net.canShow(r)) {
                found = r;
                greatest = doubt;
            }
        }
        return found;
    }

    public boolean drop(int row, boolean is) {
        int dropped = is ? 1 : 0;
        if (!told.exists(ROW, row) || stand.dropped[row] == dropped) return false;
        stand.dropped[row] = dropped;
        return true;
    }

    public int clean(long limit) {
        if (limit < 0) return NONE;
        int dropped = dropAbove(limit);
        int back = putBack(limit);
        if (back > 0) mover.settle(50);
        return dropped - back;
    }

    private int dropAbove(long limit) {
        Arrays.fill(droppedHere, 0);
        mover.settle(50);
        for (int dropped = 0; dropped < MOST_DROPPED; dropped++) {
            int row = findWorst();
            if (row == NONE || stand.doubtOf(row) <= limit) return dropped;
            stand.dropped[row] = 1;
            droppedHere[row] = 1;
            mover.settle(50);
        }
        return MOST_DROPPED;
    }

    private int putBack(long limit) {
        int back = 0;
        for (int r = 0; r < told.count[ROW]; r++) {
            if (droppedHere[r] == 1 && stand.doubtOf(r) <= limit) {
                stand.dropped[r] = 0;
                back++;
            }
        }
        return back;
    }

    // ---- ties

    public int tie(int first, int second, int what) {
        if (!areUnlike(first, second) || what < 0 || what > 2) return NOTHING;
        ties.survey();
        if (what == 0) return ties.shared[first][second];
        if (ties.shared[first][second] == 0) return NOTHING;
        return ties.stepOf(first, second, what - 1);
    }

    private boolean areUnlike(int first, int second) {
        return first != second && told.exists(PICTURE, first) && told.exists(PICTURE, second);
    }

    public int loop(int first, int second, int third, int axis) {
        if (!isAxis(axis)) return NOTHING;
        if (!areUnlike(first, second) || !areUnlike(second, third) || !areUnlike(third, first)) return NOTHING;
        ties.survey();
        if (!ties.isLoop(first, second, third)) return NOTHING;
        return ties.loopOf(first, second, third, axis);
    }

    public int gap(int what) {
        if (what != 0 && what != 1) return NONE;
        ties.survey();
        ties.findGap();
        return what == 0 ? ties.gapPlace : ties.gapSize;
    }

    public int tree(int k) {
        ties.survey();
        ties.growTree();
        if (k == NONE) return ties.branches;
        if (k < 0 || k >= ties.branches) return NONE;
        return 100 * ties.branchFirst[k] + ties.branchSecond[k];
    }

    public int plan(int n) {
        if (n < 1 || n > MOST_POINTS) return NONE;
        ties.survey();
        ties.growTree();
        return ties.countPlanned(n);
    }

    // ---- what alters

    public int differ(int picture, int axis) {
        if (!told.exists(PICTURE, picture) || !isAxis(axis)) return NOTHING;
        aside.takeFrom(stand);
        int first = placeBySet(1, picture, axis);
        int second = placeBySet(2, picture, axis);
        stand.takeFrom(aside);
        return first - second;
    }

    private int placeBySet(int set, int picture, int axis) {
        stand.sets = set;
        starter.begin();
        mover.settle(200);
        return stand.pictureAt[axis][picture];
    }

    public int alters(int row, int u, int v, int more) {
        if (!canMeasure(row, u, v) || more < 0) return NONE;
        int oldU = told.rowAt[0][row];
        int oldV = told.rowAt[1][row];
        aside.takeFrom(stand);
        mover.settle(200);
        other.takeFrom(stand);
        stand.takeFrom(aside);
        told.setMeasured(row, u, v);
        mover.settle(200);
        int altered = countMoved(more);
        told.setMeasured(row, oldU, oldV);
        stand.takeFrom(aside);
        return altered;
    }

    private int countMoved(int more) {
        int moved = 0;
        for (int p = 0; p < told.count[PICTURE]; p++) {
            int across = Math.abs(stand.pictureAt[0][p] - other.pictureAt[0][p]);
            int along = Math.abs(stand.pictureAt[1][p] - other.pictureAt[1][p]);
            if (across > more || along > more) moved++;
        }
        return moved;
    }

    public boolean measure(int row, int u, int v) {
        if (!canMeasure(row, u, v)) return false;
        told.setMeasured(row, u, v);
        return true;
    }

    private boolean canMeasure(int row, int u, int v) {
        return told.exists(ROW, row) && u >= 0 && u <= MOST_MEASURED && v >= 0 && v <= MOST_MEASURED;
    }

    public int slips(int n, int most, int seed) {
        int rows = told.count[ROW];
        if (rows == 0 || n < 1 || n > 60 || most < 0 || most > 999 || seed < 0) return NONE;
        long x = seed;
        int draws = 0;
        for (int slip = 0; slip < n; slip++) {
            x = nextDraw(x);
            int row = drawn(x, rows);
            x = nextDraw(x);
            int u = told.rowAt[0][row] + drawn(x, 2 * most + 1) - most;
            x = nextDraw(x);
            int v = told.rowAt[1][row] + drawn(x, 2 * most + 1) - most;
            told.setMeasured(row, keptMeasured(u), keptMeasured(v));
            draws += 3;
        }
        return draws;
    }

    private static long nextDraw(long x) {
        return (1103515245L * x + 12345L) & 2147483647L;
    }

    private static int drawn(long x, int of) {
        return of < 1 ? 0 : (int) (x / 64 % of);
    }

    private static int keptMeasured(int value) {
        return Math.max(0, Math.min(MOST_MEASURED, value));
    }

    // ---- images

    public int image() {
        return imager.write(stand);
    }

    public int octet(int k) {
        if (k < 0 || k >= imager.length) return NONE;
        return imager.written[k];
    }

    public boolean on() {
        int bytes = taped;
        taped = 0;
        if (!imager.read(tape, bytes, other)) return false;
        stand.takeFrom(other);
        return true;
    }

    /** What the text tells, with what was measured since. */
    private static final class Told {
        final int[] count = new int[6];
        final int[][] name = new int[3][MOST_POINTS];
        final int[] strip = new int[MOST_PICTURES];
        final int[] turn = new int[MOST_PICTURES];
        final int[] rowPicture = new int[MOST_ROWS];
        final int[] rowPoint = new int[MOST_ROWS];
        final int[][] rowAt = new int[2][MOST_ROWS];
        final int[] rowWeight = new int[MOST_ROWS];
        final int[] controlSet = new int[MOST_POINTS];
        final int[][] controlAt = new int[2][MOST_POINTS];
        final int[] centreWeight = new int[MOST_PICTURES];
        final int[][] centreAt = new int[2][MOST_PICTURES];

        void clear() {
            Arrays.fill(count, 0);
            Arrays.fill(controlSet, 0);
            Arrays.fill(centreWeight, 0);
        }

        void takeFrom(Told from) {
            copyAll(from.count, count);
            for (int kind = STRIP; kind <= POINT; kind++) copyAll(from.name[kind], name[kind]);
            copyAll(from.strip, strip);
            copyAll(from.turn, turn);
            copyAll(from.rowPicture, rowPicture);
            copyAll(from.rowPoint, rowPoint);
            copyAll(from.rowWeight, rowWeight);
            copyAll(from.controlSet, controlSet);
            copyAll(from.centreWeight, centreWeight);
            for (int axis = 0; axis < 2; axis++) {
                copyAll(from.rowAt[axis], rowAt[axis]);
                copyAll(from.controlAt[axis], controlAt[axis]);
                copyAll(from.centreAt[axis], centreAt[axis]);
            }
        }

        boolean exists(int kind, int which) {
            return which >= 0 && which < count[kind];
        }

        boolean isFull(int kind) {
            return kind >= 0 && kind < MOST.length && count[kind] >= MOST[kind];
        }

        int find(int kind, int named) {
            for (int which = 0; which < count[kind]; which++) {
                if (name[kind][which] == named) return which;
            }
            return NONE;
        }

        boolean isNamed(int named) {
            return find(STRIP, named) != NONE || find(PICTURE, named) != NONE || find(POINT, named) != NONE;
        }

        int findRow(int picture, int point) {
            for (int r = 0; r < count[ROW]; r++) {
                if (rowPicture[r] == picture && rowPoint[r] == point) return r;
            }
            return NONE;
        }

        void addNamed(int kind, int named) {
            if (isFull(kind)) return;
            name[kind][count[kind]] = named;
            count[kind]++;
        }

        void addPicture(int named, int ofStrip, int ofTurn) {
            if (isFull(PICTURE)) return;
            strip[count[PICTURE]] = ofStrip;
            turn[count[PICTURE]] = ofTurn;
            addNamed(PICTURE, named);
        }

        void addRow(int picture, int point, int u, int v, int weight) {
            if (isFull(ROW)) return;
            int r = count[ROW];
            rowPicture[r] = picture;
            rowPoint[r] = point;
            rowWeight[r] = weight;
            count[ROW]++;
            setMeasured(r, u, v);
        }

        void addControl(int point, int x, int y, int set) {
            controlSet[point] = set;
            controlAt[0][point] = x;
            controlAt[1][point] = y;
            count[CONTROL]++;
        }

        void addCentre(int picture, int x, int y, int weight) {
            centreWeight[picture] = weight;
            centreAt[0][picture] = x;
            centreAt[1][picture] = y;
            count[CENTRE]++;
        }

        void setMeasured(int row, int u, int v) {
            rowAt[0][row] = u;
            rowAt[1][row] = v;
        }

        boolean drifts(int ofStrip) {
            for (int p = 0; p < count[PICTURE]; p++) {
                if (strip[p] == ofStrip && centreWeight[p] > 0) return true;
            }
            return false;
        }

        /** What a row was measured at, turned, in hundredths. */
        int turnedBy(int byTurn, int row, int axis) {
            // along, each turn answers what the turn ahead of it answers across
            int quarter = axis == 0 ? byTurn & 3 : (byTurn + 3) & 3;
            int u = HUNDREDTHS * rowAt[0][row];
            int v = HUNDREDTHS * rowAt[1][row];
            switch (quarter) {
                case 0: return u;
                case 1: return -v;
                case 2: return -u;
                default: return v;
            }
        }
    }

    private static void copyAll(int[] from, int[] to) {
        System.arraycopy(from, 0, to, 0, Math.min(from.length, to.length));
    }

    /** Reads the tape as a text, into a draft. */
    private static final class Reader {
        final int[] tape;
        final Told told;
        int fault = 0;
        int place = NONE;
        int length = 0;
        int at = 0;
        int from = 0;
        int end = 0;
        int lastEnd = NONE;
        int name = 0;
        int found = NONE;
        int value = 0;
        int across = 0;
        int along = 0;

        Reader(int[] tape, Told told) {
            this.tape = tape;
            this.told = told;
        }

        /** How many statements the text has; NONE with a fault. */
        int read(int bytes) {
            length = Math.min(bytes, tape.length);
            at = 0;
            lastEnd = NONE;
            fault = 0;
            place = NONE;
            told.clear();
            int statements = 0;
            skipBlanks();
            while (at < length && statements <= MOST_STATEMENTS) {
                if (!readStatement(statements)) return NONE;
                statements++;
                skipBlanks();
            }
            return statements;
        }

        boolean readStatement(int ahead) {
            markRun('a', 'z');
            if (ahead >= MOST_STATEMENTS) return fail(4, from);
            int kind = kindOfWord();
            if (kind == NONE) return fail(1, from);
            if (told.isFull(kind)) return fail(4, from);
            passRun();
            boolean read;
            switch (kind) {
                case PICTURE: read = readPicture(); break;
                case ROW: read = readRow(); break;
                case CONTROL: read = readControl(); break;
                case CENTRE: read = readCentre(); break;
                default: read = readNamed(kind); break;
            }
            return read && readSemicolon();
        }

        int kindOfWord() {
            if (isWord("strip")) return STRIP;
            if (isWord("picture")) return PICTURE;
            if (isWord("point")) return POINT;
            if (isWord("row")) return ROW;
            if (isWord("control")) return CONTROL;
            if (isWord("centre")) return CENTRE;
            return NONE;
        }

        boolean isOwnWord() {
            return isWord("strip") || isWord("picture") || isWord("in") || isWord("turn")
                || isWord("any") || isWord("point") || isWord("row") || isWord("at")
                || isWord("weight") || isWord("control") || isWord("set") || isWord("centre");
        }

        boolean readNamed(int kind) {
            if (!readName(NONE)) return false;
            told.addNamed(kind, name);
            return true;
        }

        boolean readPicture() {
            if (!readName(NONE)) return false;
            int given = name;
            if (!readWord("in") || !readName(STRIP) || !readWord("turn") || !readTurn()) return false;
            told.addPicture(given, found, value);
            return true;
        }

        boolean readTurn() {
            markRun('a', 'z');
            if (from != lastEnd && isWord("any")) {
                passRun();
                value = ANY;
                return true;
            }
            return readNumber(0, 3);
        }

        boolean readRow() {
            if (!readName(PICTURE)) return false;
            int picture = found;
            if (!readName(POINT)) return false;
            if (told.findRow(picture, found) != NONE) return fail(3, from);
            if (!readAt() || !readWord("weight") || !readNumber(1, 9)) return false;
            told.addRow(picture, found, across, along, value);
            return true;
        }

        boolean readControl() {
            if (!readName(POINT)) return false;
            if (told.controlSet[found] != 0) return fail(3, from);
            if (!readAt() || !readWord("set") || !readNumber(1, 2)) return false;
            told.addControl(found, across, along, value);
            return true;
        }

        boolean readCentre() {
            if (!readName(PICTURE)) return false;
            if (told.centreWeight[found] != 0) return fail(3, from);
            if (!readAt() || !readWord("weight") || !readNumber(1, 9)) return false;
            told.addCentre(found, across, along, value);
            return true;
        }

        boolean readAt() {
            if (!readWord("at") || !readNumber(0, MOST_MEASURED)) return false;
            across = value;
            if (!readNumber(0, MOST_MEASURED)) return false;
            along = value;
            return true;
        }

        /** A name of a kind that is there; with the kind NONE a name to be given. */
        boolean readName(int kind) {
            markRun('a', 'z');
            if (isNoRun() || isOwnWord()) return fail(1, from);
            if (end - from > MOST_LETTERS) return fail(1, from + MOST_LETTERS);
            name = 0;
            for (int k = 0; k < MOST_LETTERS; k++) {
                name = 27 * name + (from + k < end ? tape[from + k] - 'a' + 1 : 0);
            }
            passRun();
            found = kind == NONE ? NONE : told.find(kind, name);
            boolean isRight = kind == NONE ? !told.isNamed(name) : found != NONE;
            return isRight ? true : fail(3, from);
        }

        boolean readWord(String word) {
            markRun('a', 'z');
            if (isNoRun() || !isWord(word)) return fail(1, from);
            passRun();
            return true;
        }

        boolean readNumber(int least, int most) {
            markRun('0', '9');
            if (isNoRun()) return fail(1, from);
            if (end - from > MOST_DIGITS) return fail(1, from + MOST_DIGITS);
            value = 0;
            for (int i = from; i < end; i++) value = 10 * value + tape[i] - '0';
            passRun();
            return value < least || value > most ? fail(2, from) : true;
        }

        boolean readSemicolon() {
            skipBlanks();
            if (at >= length || tape[at] != ';') return fail(1, at);
            at++;
            return true;
        }

        boolean isWord(String word) {
            if (end - from != word.length()) return false;
            for (int i = 0; i < word.length(); i++) {
                if (tape[from + i] != word.charAt(i)) return false;
            }
            return true;
        }

        /** None is there, or it stands side by side with the word or number ahead of it. */
        boolean isNoRun() {
            return from == end || from == lastEnd;
        }

        void markRun(int low, int high) {
            skipBlanks();
            from = at;
            end = at;
            while (end < length && tape[end] >= low && tape[end] <= high) end++;
        }

        void passRun() {
            at = end;
            lastEnd = end;
        }

        void skipBlanks() {
            while (at < length && (tape[at] == 10 || tape[at] == 32)) at++;
        }

        boolean fail(int kind, int where) {
            fault = kind;
            place = where;
            return false;
        }
    }

    /** How all stands: sets in use, turns, places, drifts, rows dropped. */
    private static final class Stand {
        final Told told;
        int sets = 3;
        final int[] turn = new int[MOST_PICTURES];
        final int[][] pictureAt = new int[2][MOST_PICTURES];
        final int[][] pointAt = new int[2][MOST_POINTS];
        final int[][] drift = new int[2][MOST_STRIPS];
        final int[] dropped = new int[MOST_ROWS];

        Stand(Told told) {
            this.told = told;
        }

        void takeFrom(Stand from) {
            sets = from.sets;
            copyAll(from.turn, turn);
            copyAll(from.dropped, dropped);
            for (int axis = 0; axis < 2; axis++) {
                copyAll(from.pictureAt[axis], pictureAt[axis]);
                copyAll(from.pointAt[axis], pointAt[axis]);
                copyAll(from.drift[axis], drift[axis]);
            }
        }

        boolean uses(int row) {
            return dropped[row] == 0;
        }

        int countRows(int[] owners, int owner) {
            int rows = 0;
            for (int r = 0; r < told.count[ROW]; r++) {
                if (owners[r] == owner && uses(r)) rows++;
            }
            return rows;
        }

        boolean isFixed(int point) {
            // a set's number, 1 or 2, is its bit
            return (told.controlSet[point] & sets) != 0;
        }

        int countFixed() {
            int fixed = 0;
            for (int q = 0; q < told.count[POINT]; q++) {
                if (isFixed(q)) fixed++;
            }
            return fixed;
        }

        int fixedAt(int point, int axis) {
            return HUNDREDTHS * told.controlAt[axis][point];
        }

        void placeFixed() {
            for (int q = 0; q < told.count[POINT]; q++) {
                if (!isFixed(q)) continue;
                pointAt[0][q] = fixedAt(q, 0);
                pointAt[1][q] = fixedAt(q, 1);
            }
        }

        int turned(int row, int axis) {
            return told.turnedBy(turn[told.rowPicture[row]], row, axis);
        }

        /** Where a row puts its point. */
        int putAt(int row, int axis) {
            int picture = told.rowPicture[row];
            return pictureAt[axis][picture] + told.turnedBy(turn[picture], row, axis);
        }

        int miss(int row, int axis) {
            return pointAt[axis][told.rowPoint[row]] - putAt(row, axis);
        }

        /** What is told of a centre, with the drift of its strip. */
        int centreAt(int picture, int axis) {
            return drift[axis][told.strip[picture]] + HUNDREDTHS * told.centreAt[axis][picture];
        }

        long doubtOf(int row) {
            long across = miss(row, 0);
            long along = miss(row, 1);
            return told.rowWeight[row] * (across * across + along * along);
        }

        long squares() {
            long squares = 0;
            for (int r = 0; r < told.count[ROW]; r++) {
                if (uses(r)) squares += doubtOf(r);
            }
            for (int p = 0; p < told.count[PICTURE]; p++) {
                long across = pictureAt[0][p] - centreAt(p, 0);
                long along = pictureAt[1][p] - centreAt(p, 1);
                squares += told.centreWeight[p] * (across * across + along * along);
            }
            return squares;
        }
    }

    /** Makes a start, from picture to picture. */
    private static final class Starter {
        final Told told;
        final Stand stand;
        final int[] started = new int[MOST_PICTURES];
        final int[] isLinked = new int[MOST_POINTS];
        final int[] ownRow = new int[MOST_POINTS];
        final int[][] linkAt = new int[2][MOST_POINTS];

        Starter(Told told, Stand stand) {
            this.told = told;
            this.stand = stand;
        }

        /** How many pictures were not started from another one. */
        int begin() {
            reset();
            int alone = 0;
            for (int n = 0; n < told.count[PICTURE]; n++) {
                int next = findLinked();
                if (next == NONE) {
                    next = findUnstarted();
                    alone++;
                } else {
                    startLinked(next);
                }
                if (next != NONE) started[next] = 1;
            }
            putPoints();
            return alone;
        }

        void reset() {
            Arrays.fill(started, 0);
            for (int axis = 0; axis < 2; axis++) {
                Arrays.fill(stand.pictureAt[axis], 0);
                Arrays.fill(stand.pointAt[axis], 0);
                Arrays.fill(stand.drift[axis], 0);
            }
            for (int p = 0; p < told.count[PICTURE]; p++) {
                stand.turn[p] = told.turn[p] == ANY ? 0 : told.turn[p];
            }
        }

        /** The first picture that can be started from others; ownRow, linkAt tell of the points that it shares. */
        int findLinked() {
            gatherStarted();
            for (int p = 0; p < told.count[PICTURE]; p++) {
                if (started[p] == 1) continue;
                int links = gatherOwn(p);
                if (links >= (told.turn[p] == ANY ? 2 : 1)) return p;
            }
            return NONE;
        }

        void gatherStarted() {
            Arrays.fill(isLinked, 0);
            for (int r = told.count[ROW] - 1; r >= 0; r--) {
                if (!stand.uses(r) || started[told.rowPicture[r]] == 0) continue;
                int q = told.rowPoint[r];
                isLinked[q] = 1;
                linkAt[0][q] = stand.putAt(r, 0);
                linkAt[1][q] = stand.putAt(r, 1);
            }
        }

        int gatherOwn(int picture) {
            Arrays.fill(ownRow, NONE);
            int links = 0;
            for (int r = 0; r < told.count[ROW]; r++) {
                int q = told.rowPoint[r];
                if (!stand.uses(r) || told.rowPicture[r] != picture || isLinked[q] == 0) continue;
                ownRow[q] = r;
                links++;
            }
            return links;
        }

        int findUnstarted() {
            for (int p = 0; p < told.count[PICTURE]; p++) {
                if (started[p] == 0) return p;
            }
            return NONE;
        }

        void startLinked(int picture) {
            int first = firstLink();
            if (first == NONE) return;
            if (told.turn[picture] == ANY) stand.turn[picture] = leastUnlikeTurn(first);
            for (int axis = 0; axis < 2; axis++) {
                stand.pictureAt[axis][picture] = linkAt[axis][first] - stand.turned(ownRow[first], axis);
            }
        }

        int firstLink() {
            for (int q = 0; q < told.count[POINT]; q++) {
                if (ownRow[q] != NONE) return q;
            }
            return NONE;
        }

        int leastUnlikeTurn(int first) {
            int best = 0;
            for (int turn = 1; turn < 4; turn++) {
                if (unlikeness(turn, first) < unlikeness(best, first)) best = turn;
            }
            return best;
        }

        long unlikeness(int turn, int first) {
            long unlike = 0;
            for (int q = 0; q < told.count[POINT]; q++) {
                if (ownRow[q] == NONE) continue;
                for (int axis = 0; axis < 2; axis++) {
                    int own = told.turnedBy(turn, ownRow[q], axis) - told.turnedBy(turn, ownRow[first], axis);
                    int there = linkAt[axis][q] - linkAt[axis][first];
                    unlike += Math.abs(own - there);
                }
            }
            return unlike;
        }

        void putPoints() {
            for (int r = told.count[ROW] - 1; r >= 0; r--) {
                if (!stand.uses(r)) continue;
                stand.pointAt[0][told.rowPoint[r]] = stand.putAt(r, 0);
                stand.pointAt[1][told.rowPoint[r]] = stand.putAt(r, 1);
            }
            stand.placeFixed();
        }
    }

    /** Makes rounds. */
    private static final class Mover {
        final Told told;
        final Stand stand;
        final long[] weight = new long[MOST_POINTS];
        final long[] pull = new long[MOST_POINTS];
        final int[][] turned = new int[2][MOST_ROWS];

        Mover(Told told, Stand stand) {
            this.told = told;
            this.stand = stand;
        }

        /** Rounds till they rest: how many altered something. */
        int settle(int most) {
            for (int r = 0; r < told.count[ROW]; r++) {
                turned[0][r] = stand.turned(r, 0);
                turned[1][r] = stand.turned(r, 1);
            }
            for (int altering = 0; altering < most; altering++) {
                if (!makeRound()) return altering;
            }
            return most;
        }

        boolean makeRound() {
            boolean altered = false;
            // across and along never touch one another; nor do points one another, nor pictures, nor drifts
            for (int axis = 0; axis < 2; axis++) {
                if (movePoints(axis)) altered = true;
                if (movePictures(axis)) altered = true;
                if (moveDrifts(axis)) altered = true;
            }
            return altered;
        }

        boolean movePoints(int axis) {
            clearPulls();
            for (int r = 0; r < told.count[ROW]; r++) {
                if (!stand.uses(r)) continue;
                int to = stand.pictureAt[axis][told.rowPicture[r]] + turned[axis][r];
                addPull(told.rowPoint[r], told.rowWeight[r], to);
            }
            for (int q = 0; q < told.count[POINT]; q++) {
                if (stand.isFixed(q)) weight[q] = 0;
            }
            return moveEach(stand.pointAt[axis], told.count[POINT]);
        }

        boolean movePictures(int axis) {
            clearPulls();
            for (int r = 0; r < told.count[ROW]; r++) {
                if (!stand.uses(r)) continue;
                int to = stand.pointAt[axis][told.rowPoint[r]] - turned[axis][r];
                addPull(told.rowPicture[r], told.rowWeight[r], to);
            }
            for (int p = 0; p < told.count[PICTURE]; p++) {
                addPull(p, told.centreWeight[p], stand.centreAt(p, axis));
            }
            return moveEach(stand.pictureAt[axis], told.count[PICTURE]);
        }

        boolean moveDrifts(int axis) {
            clearPulls();
            for (int p = 0; p < told.count[PICTURE]; p++) {
                int to = stand.pictureAt[axis][p] - HUNDREDTHS * told.centreAt[axis][p];
                addPull(told.strip[p], told.centreWeight[p], to);
            }
            return moveEach(stand.drift[axis], told.count[STRIP]);
        }

        void clearPulls() {
            Arrays.fill(weight, 0L);
            Arrays.fill(pull, 0L);
        }

        void addPull(int which, int strength, int to) {
            weight[which] += strength;
            pull[which] += (long) strength * to;
        }

        /** Each becomes the whole number nearest to its mean; half way between two the old one, else the lesser. */
        boolean moveEach(int[] places, int many) {
            boolean altered = false;
            for (int which = 0; which < many; which++) {
                long heavy = weight[which];
                if (heavy <= 0) continue;
                long best = Math.floorDiv(pull[which], heavy);
                long over = 2 * (pull[which] - best * heavy);
                if (over > heavy || over == heavy && places[which] == best + 1) best++;
                if (best == places[which]) continue;
                places[which] = (int) best;
                altered = true;
            }
            return altered;
        }
    }

    /** Solves the block as a whole, modulo a prime. */
    private static final class Solver {
        final Told told;
        final Stand stand;
        final int[] unknown = new int[MOST_UNKNOWN];
        final long[][] matrix = new long[MOST_UNKNOWN][MOST_UNKNOWN + 1];
        int many = 0;

        Solver(Told told, Stand stand) {
            this.told = told;
            this.stand = stand;
        }

        /** The answer for a place (pictures, points, strips in one row of numbers); NONE without. */
        int solveFor(int which, int axis) {
            numberUnknowns();
            int wanted = unknown[which];
            if (wanted == NONE) return NONE;
            fill(axis);
            for (int column = 0; column < many; column++) {
                if (!eliminate(column)) return NONE;
            }
            return (int) matrix[wanted][many];
        }

        void numberUnknowns() {
            Arrays.fill(unknown, NONE);
            for (int r = 0; r < told.count[ROW]; r++) {
                if (!stand.uses(r)) continue;
                unknown[told.rowPicture[r]] = 0;
                if (!stand.isFixed(told.rowPoint[r])) unknown[MOST_PICTURES + told.rowPoint[r]] = 0;
            }
            for (int p = 0; p < told.count[PICTURE]; p++) {
                if (told.centreWeight[p] == 0) continue;
                unknown[p] = 0;
                unknown[driftOf(p)] = 0;
            }
            many = 0;
            for (int which = 0; which < MOST_UNKNOWN; which++) {
                if (unknown[which] == NONE) continue;
                unknown[which] = many;
                many++;
            }
        }

        int driftOf(int picture) {
            return MOST_PICTURES + MOST_POINTS + told.strip[picture];
        }

        void fill(int axis) {
            for (int line = 0; line < many; line++) Arrays.fill(matrix[line], 0L);
            for (int r = 0; r < told.count[ROW]; r++) {
                if (!stand.uses(r)) continue;
                int p = told.rowPicture[r];
                int q = told.rowPoint[r];
                int turned = stand.turned(r, axis);
                if (stand.isFixed(q)) addHold(p, told.rowWeight[r], stand.fixedAt(q, axis) - turned);
                else addTerm(MOST_PICTURES + q, p, told.rowWeight[r], turned);
            }
            for (int p = 0; p < told.count[PICTURE]; p++) {
                if (told.centreWeight[p] == 0) continue;
                addTerm(p, driftOf(p), told.centreWeight[p], HUNDREDTHS * told.centreAt[axis][p]);
            }
            for (int line = 0; line < many; line++) {
                for (int column = 0; column <= many; column++) {
                    matrix[line][column] = Math.floorMod(matrix[line][column], PRIME);
                }
            }
        }

        /** Weight times the square of (place - at) belongs to the sum. */
        void addHold(int which, int weight, int at) {
            int line = unknown[which];
            if (line == NONE) return;
            matrix[line][line] += weight;
            matrix[line][many] += (long) weight * at;
        }

        /** Weight times the square of (place - other place - apart) belongs to the sum. */
        void addTerm(int which, int less, int weight, int apart) {
            int line = unknown[which];
            int column = unknown[less];
            if (line == NONE || column == NONE) return;
            addHold(which, weight, apart);
            addHold(less, weight, -apart);
            matrix[line][column] -= weight;
            matrix[column][line] -= weight;
        }

        /** Leaves a column with 1 in its own line and 0 in all others; false when that can't be. */
        boolean eliminate(int column) {
            int line = column;
            while (line < many && matrix[line][column] == 0) line++;
            if (line >= many) return false;
            if (line != column) swapLines(line, column);
            long factor = inverse(matrix[column][column]);
            for (int k = column; k <= many; k++) matrix[column][k] = matrix[column][k] * factor % PRIME;
            for (int to = 0; to < many; to++) {
                if (to != column && matrix[to][column] != 0) subtractLine(to, column);
            }
            return true;
        }

        void swapLines(int one, int two) {
            for (int k = 0; k <= many; k++) {
                long kept = matrix[one][k];
                matrix[one][k] = matrix[two][k];
                matrix[two][k] = kept;
            }
        }

        void subtractLine(int to, int column) {
            long factor = PRIME - matrix[to][column];
            for (int k = column; k <= many; k++) {
                matrix[to][k] = (matrix[to][k] + factor * matrix[column][k]) % PRIME;
            }
        }

        static long inverse(long value) {
            // a prime's numbers to the power of that less 2
            long power = value;
            long answer = 1;
            for (long left = PRIME - 2; left > 0; left >>= 1) {
                if ((left & 1) == 1) answer = answer * power % PRIME;
                power = power * power % PRIME;
            }
            return answer;
        }
    }

    /** What hangs together, with a row left out if one likes. */
    private static final class Net {
        final Told told;
        final Stand stand;
        final int[] part = new int[MOST_PICTURES + MOST_POINTS];
        final int[] held = new int[MOST_PICTURES + MOST_POINTS];

        Net(Told told, Stand stand) {
            this.told = told;
            this.stand = stand;
        }

        boolean isPictureLoose(int picture) {
            joinAll(NONE);
            return isLoose(picture);
        }

        boolean isPointLoose(int point) {
            joinAll(NONE);
            return isLoose(MOST_PICTURES + point);
        }

        boolean isJoined(int first, int second) {
            joinAll(NONE);
            return part[first] == part[second];
        }

        boolean canShow(int row) {
            if (!stand.uses(row)) return false;
            joinAll(row);
            int picture = told.rowPicture[row];
            int point = MOST_PICTURES + told.rowPoint[row];
            return part[picture] == part[point] || !isLoose(picture) && !isLoose(point);
        }

        int countParts() {
            joinAll(NONE);
            int parts = 0;
            for (int p = 0; p < told.count[PICTURE]; p++) {
                boolean first = true;
                for (int ahead = 0; ahead < p; ahead++) {
                    if (part[ahead] == part[p]) first = false;
                }
                if (first) parts++;
            }
            return parts;
        }

        int countLoose(int without) {
            joinAll(without);
            int loose = 0;
            for (int p = 0; p < told.count[PICTURE]; p++) {
                if (isLoose(p)) loose++;
            }
            return loose;
        }

        boolean isLoose(int which) {
            return held[part[which]] == 0;
        }

        void joinAll(int without) {
            for (int which = 0; which < part.length; which++) part[which] = which;
            for (int r = 0; r < told.count[ROW]; r++) {
                if (r != without && stand.uses(r)) join(told.rowPicture[r], MOST_PICTURES + told.rowPoint[r]);
            }
            for (int p = 0; p < told.count[PICTURE]; p++) {
                if (told.centreWeight[p] > 0) join(firstCentre(told.strip[p]), p);
            }
            Arrays.fill(held, 0);
            for (int q = 0; q < told.count[POINT]; q++) {
                if (stand.isFixed(q)) held[part[MOST_PICTURES + q]] = 1;
            }
        }

        int firstCentre(int strip) {
            for (int p = 0; p < told.count[PICTURE]; p++) {
                if (told.strip[p] == strip && told.centreWeight[p] > 0) return p;
            }
            return NONE;
        }

        void join(int one, int two) {
            if (one == NONE || part[one] == part[two]) return;
            int from = part[two];
            for (int which = 0; which < part.length; which++) {
                if (part[which] == from) part[which] = part[one];
            }
        }
    }

    /** Ties of pictures, loops, the tree, the plan; survey() goes ahead of all else. */
    private static final class Ties {
        final Told told;
        final Stand stand;
        final int[][] rowOf = new int[MOST_PICTURES][MOST_POINTS];
        final int[][] shared = new int[MOST_PICTURES][MOST_PICTURES];
        final int[][] across = new int[MOST_PICTURES][MOST_PICTURES];
        final int[][] along = new int[MOST_PICTURES][MOST_PICTURES];
        final int[] joined = new int[MOST_PICTURES];
        final int[] branchFirst = new int[MOST_PICTURES];
        final int[] branchSecond = new int[MOST_PICTURES];
        final int[] planned = new int[MOST_ROWS];
        int branches = 0;
        int gapPlace = NONE;
        int gapSize = NONE;

        Ties(Told told, Stand stand) {
            this.told = told;
            this.stand = stand;
        }

        void survey() {
            int pictures = told.count[PICTURE];
            for (int p = 0; p < pictures; p++) Arrays.fill(rowOf[p], NONE);
            for (int r = 0; r < told.count[ROW]; r++) {
                if (stand.uses(r)) rowOf[told.rowPicture[r]][told.rowPoint[r]] = r;
            }
            for (int first = 0; first < pictures; first++) {
                for (int second = 0; second < pictures; second++) {
                    if (first != second) surveyTie(first, second);
                }
            }
        }

        void surveyTie(int first, int second) {
            int many = 0;
            long stepAcross = 0;
            long stepAlong = 0;
            for (int q = 0; q < told.count[POINT]; q++) {
                int one = rowOf[first][q];
                int two = rowOf[second][q];
                if (one == NONE || two == NONE) continue;
                many++;
                stepAcross += stand.turned(one, 0) - stand.turned(two, 0);
                stepAlong += stand.turned(one, 1) - stand.turned(two, 1);
            }
            shared[first][second] = many;
            across[first][second] = many == 0 ? 0 : (int) Math.floorDiv(stepAcross, (long) many);
            along[first][second] = many == 0 ? 0 : (int) Math.floorDiv(stepAlong, (long) many);
        }

        int stepOf(int first, int second, int axis) {
            return axis == 0 ? across[first][second] : along[first][second];
        }

        boolean isLoop(int first, int second, int third) {
            return shared[first][second] > 0 && shared[second][third] > 0 && shared[third][first] > 0;
        }

        int loopOf(int first, int second, int third, int axis) {
            return stepOf(first, second, axis) + stepOf(second, third, axis) + stepOf(third, first, axis);
        }

        void findGap() {
            gapPlace = NONE;
            gapSize = NONE;
            int pictures = told.count[PICTURE];
            for (int i = 0; i < pictures; i++) {
                for (int j = i + 1; j < pictures; j++) {
                    for (int k = j + 1; k < pictures; k++) {
                        if (isLoop(i, j, k)) takeGap(i, j, k);
                    }
                }
            }
        }

        void takeGap(int i, int j, int k) {
            int size = Math.abs(loopOf(i, j, k, 0)) + Math.abs(loopOf(i, j, k, 1));
            if (size <= gapSize) return;
            gapSize = size;
            gapPlace = 10000 * i + 100 * j + k;
        }

        void growTree() {
            branches = 0;
            for (int p = 0; p < MOST_PICTURES; p++) joined[p] = p;
            for (int n = 1; n < told.count[PICTURE]; n++) {
                if (!addBranch()) return;
            }
        }

        /** Adds the strongest tie of two pictures that the tree does not join yet; false without. */
        boolean addBranch() {
            int most = 0;
            for (int i = 0; i < told.count[PICTURE]; i++) {
                for (int j = i + 1; j < told.count[PICTURE]; j++) {
                    if (joined[i] == joined[j] || shared[i][j] <= most) continue;
                    most = shared[i][j];
                    branchFirst[branches] = i;
                    branchSecond[branches] = j;
                }
            }
            if (most == 0) return false;
            int from = joined[branchSecond[branches]];
            int to = joined[branchFirst[branches]];
            for (int p = 0; p < MOST_PICTURES; p++) {
                if (joined[p] == from) joined[p] = to;
            }
            branches++;
            return true;
        }

        int countPlanned(int most) {
            Arrays.fill(planned, 0);
            for (int k = 0; k < branches; k++) markPlanned(branchFirst[k], branchSecond[k], most);
            int rows = 0;
            for (int r = 0; r < told.count[ROW]; r++) rows += planned[r];
            return rows;
        }

        void markPlanned(int first, int second, int most) {
            int points = 0;
            for (int q = 0; q < told.count[POINT] && points < most; q++) {
                int one = rowOf[first][q];
                int two = rowOf[second][q];
                if (one == NONE || two == NONE) continue;
                planned[one] = 1;
                planned[two] = 1;
                points++;
            }
        }
    }

    /** Writes images, and reads them from the tape. */
    private static final class Imager {
        final Told told;
        final int[] written = new int[MOST_IMAGE];
        int length = 0;
        int at = 0;

        Imager(Told told) {
            this.told = told;
        }

        int write(Stand stand) {
            length = 0;
            writeByte(stand.sets);
            for (int p = 0; p < told.count[PICTURE]; p++) {
                writeByte(stand.turn[p]);
                writePair(stand.pictureAt, p);
            }
            for (int q = 0; q < told.count[POINT]; q++) writePair(stand.pointAt, q);
            for (int s = 0; s < told.count[STRIP]; s++) writePair(stand.drift, s);
            for (int r = 0; r < told.count[ROW]; r++) writeByte(stand.dropped[r]);
            writeByte(check(written, length));
            return length;
        }

        void writePair(int[][] places, int which) {
            for (int axis = 0; axis < 2; axis++) {
                for (int shift = 24; shift >= 0; shift -= 8) writeByte(places[axis][which] >>> shift);
            }
        }

        void writeByte(int value) {
            if (length >= written.length) return;
            written[length] = value & 255;
            length++;
        }

        static int check(int[] bytes, int many) {
            int c = 45;
            for (int i = 0; i < many; i++) c = (5 * c + bytes[i]) % 241;
            return c;
        }

        int dueLength() {
            return 2 + 9 * told.count[PICTURE] + 8 * told.count[POINT] + 8 * told.count[STRIP] + told.count[ROW];
        }

        /** Whether the bytes are an image, which stands in the stand then. */
        boolean read(int[] bytes, int many, Stand stand) {
            if (many != dueLength() || many > bytes.length) return false;
            if (check(bytes, many - 1) != bytes[many - 1]) return false;
            take(bytes, stand);
            return stand.sets <= 3 && arePicturesRight(stand) && arePointsRight(stand)
                && areDriftsRight(stand) && areRowsRight(stand);
        }

        void take(int[] bytes, Stand stand) {
            stand.sets = bytes[0];
            at = 1;
            for (int p = 0; p < told.count[PICTURE]; p++) {
                stand.turn[p] = bytes[at];
                at++;
                takePair(bytes, stand.pictureAt, p);
            }
            for (int q = 0; q < told.count[POINT]; q++) takePair(bytes, stand.pointAt, q);
            for (int s = 0; s < told.count[STRIP]; s++) takePair(bytes, stand.drift, s);
            for (int r = 0; r < told.count[ROW]; r++) {
                stand.dropped[r] = bytes[at];
                at++;
            }
        }

        void takePair(int[] bytes, int[][] places, int which) {
            for (int axis = 0; axis < 2; axis++) {
                int value = 0;
                for (int k = 0; k < 4; k++) value = (value << 8) | bytes[at + k];
                places[axis][which] = value;
                at += 4;
            }
        }

        boolean arePicturesRight(Stand stand) {
            for (int p = 0; p < told.count[PICTURE]; p++) {
                int turn = stand.turn[p];
                if (told.turn[p] == ANY ? turn > 3 : turn != told.turn[p]) return false;
                if (!isNear(stand.pictureAt, p)) return false;
            }
            return true;
        }

        boolean arePointsRight(Stand stand) {
            for (int q = 0; q < told.count[POINT]; q++) {
                if (!isNear(stand.pointAt, q)) return false;
                if (stand.isFixed(q) && !isAt(stand.pointAt, q, stand.fixedAt(q, 0), stand.fixedAt(q, 1))) return false;
            }
            return true;
        }

        boolean areDriftsRight(Stand stand) {
            for (int s = 0; s < told.count[STRIP]; s++) {
                if (!isNear(stand.drift, s)) return false;
                if (!told.drifts(s) && !isAt(stand.drift, s, 0, 0)) return false;
            }
            return true;
        }

        boolean areRowsRight(Stand stand) {
            for (int r = 0; r < told.count[ROW]; r++) {
                if (stand.dropped[r] > 1) return false;
            }
            return true;
        }

        static boolean isNear(int[][] places, int which) {
            return places[0][which] >= -FAR && places[0][which] <= FAR
                && places[1][which] >= -FAR && places[1][which] <= FAR;
        }

        static boolean isAt(int[][] places, int which, int across, int along) {
            return places[0][which] == across && places[1][which] == along;
        }
    }
}
