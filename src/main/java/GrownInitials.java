/**
 * A common on which initials cut in beeches grow, go about, call at homes and root.
 * All rows are made in the constructors and used again, so that no call makes an object.
 */
public final class GrownInitials {
    public static final int NONE = -1;

    private static final int LACKING = -2;
    private static final int AMPERSAND = -3;
    private static final int WRONG_WORDS = -2;
    private static final int WRONG_ROW = -3;
    private static final int NOT_CHECKED = -2;
    private static final int END = -1;
    private static final int ALL = 100;

    private static final int WIDTH = 24;
    private static final int HEIGHT = 16;
    private static final int MOST_CUTS = 16;
    private static final int MOST_LETTERS = 16;
    private static final int MOST_SEASONS = 100;
    private static final int LAST_SEASON = 9999;
    private static final int MOST_CALLS = 9999;
    private static final int FULL_MEMORY = 99;
    private static final int NO_CUT = 255;

    private static final int GROWING = 0;
    private static final int UP = 1;
    private static final int ABOUT = 2;
    private static final int ROOTED = 3;
    private static final int FELLED = 4;

    private final Tape tape;
    private final Cuts cuts;
    private final BarkReader barkReader;
    private final Law rules;
    private final LawReader lawReader;
    private final Standing now;
    private final Standing kept;
    private final Standing trial;
    private final Walk walk;
    private final Grove grove;
    private final Rows rows;
    private final Spelling spelling;
    private final Matches matches;
    private boolean isKept;
    private int keptCuts;

    public GrownInitials() {
        tape = new Tape();
        cuts = new Cuts();
        barkReader = new BarkReader(tape);
        rules = new Law();
        lawReader = new LawReader(tape);
        now = new Standing();
        kept = new Standing();
        trial = new Standing();
        walk = new Walk(cuts, rules);
        grove = new Grove();
        rows = new Rows();
        spelling = new Spelling();
        matches = new Matches();
        isKept = false;
        keptCuts = 0;
    }

    public boolean home(int c, int x, int y) {
        if (!isCut(c) || !isAcross(x) || !isAlong(y)) {
            return false;
        }
        cuts.dwelling[c] = WIDTH * y + x;
        return true;
    }

    public int feed(int a, int b, int c, int d, int e) {
        if (tape.size + Tape.FED > Tape.MOST_BYTES) {
            return NONE;
        }
        tape.addWord(a);
        tape.addWord(b);
        tape.addWord(c);
        tape.addWord(d);
        tape.addWord(e);
        return tape.size;
    }

    public int law(int n) {
        if (n < 1 || n > Law.MOST_BYTES || n > tape.size) {
            return NONE;
        }
        int told = lawReader.read(n);
        tape.clear();
        if (told > 0) {
            rules.copyOf(lawReader.draft);
        }
        return told;
    }

    public int bark(int n) {
        if (n < 1 || n > BarkReader.MOST_BYTES || n > tape.size) {
            return NONE;
        }
        int told = barkReader.read(n);
        tape.clear();
        if (told > 0) {
            cuts.copyOf(barkReader.draft);
            now.begin(cuts);
        }
        return told;
    }

    public int seasons(int n) {
        return isSpan(n) ? walk.go(now, n) : NONE;
    }

    public int tried(int n, int what) {
        boolean isOfCut = isCut(what - 20) || isCut(what - 40) || isCut(what - 60);
        boolean isOfAll = what >= 0 && what <= 2;
        if (!isSpan(n) || !isOfCut && !isOfAll) {
            return NONE;
        }
        trial.copyOf(now, cuts.size);
        int called = walk.go(trial, n);
        if (what == 0) {
            return called;
        }
        if (isOfAll) {
            return trial.bitsOf(what == 1 ? ROOTED : FELLED, cuts.size);
        }
        if (isCut(what - 20)) {
            return trial.place[what - 20];
        }
        return isCut(what - 40) ? trial.memory[what - 40] : trial.stage[what - 60];
    }

    public int cutIs(int c, int what) {
        if (!isCut(c)) {
            return NONE;
        }
        switch (what) {
            case 0: return cuts.tree[c];
            case 1: return cuts.first[c];
            case 2: return cuts.second[c];
            case 3: return cuts.heart[c];
            case 4: return cuts.crossed[c];
            case 5: return cuts.arrow[c];
            case 6: return cuts.date[c];
            case 7: return cuts.dwelling[c];
            case 8: return now.place[c];
            case 9: return now.memory[c];
            case 10: return now.called[c];
            case 11: return now.stage[c];
            case 12: return now.back[c];
            default: return NONE;
        }
    }

    public int meet(int c, int d, int n) {
        if (!isCut(c) || !isCut(d) || c == d || !isSpan(n)) {
            return NONE;
        }
        trial.copyOf(now, cuts.size);
        for (int gone = 0; gone <= n; gone++) {
            if (trial.areTogether(c, d)) {
                return gone;
            }
            walk.season(trial);
        }
        return LACKING;
    }

    public int roots(int c, int n) {
        if (!isCut(c) || !isSpan(n)) {
            return NONE;
        }
        trial.copyOf(now, cuts.size);
        for (int gone = 0; gone <= n; gone++) {
            if (trial.stage[c] == ROOTED) {
                return gone;
            }
            walk.season(trial);
        }
        return LACKING;
    }

    public int single(int what) {
        if (what != 0 && what != 1) {
            return NONE;
        }
        int bits = 0;
        for (int c = 0; c < cuts.size; c++) {
            boolean isSingle = cuts.second[c] < 0;
            if (isSingle && (what == 0 || cuts.second[c] == AMPERSAND)) {
                bits |= 1 << c;
            }
        }
        return bits;
    }

    public int who(int letter) {
        if (letter < 0 || letter >= MOST_LETTERS) {
            return NONE;
        }
        int bits = 0;
        for (int c = 0; c < cuts.size; c++) {
            if (cuts.first[c] == letter || cuts.second[c] == letter) {
                bits |= 1 << c;
            }
        }
        return bits;
    }

    public int letters() {
        int bits = 0;
        for (int c = 0; c < cuts.size; c++) {
            if (now.stage[c] == ABOUT) {
                bits |= cuts.letterBits(c);
            }
        }
        return bits;
    }

    public int nearest(int c, int what) {
        if (!isCut(c) || what != 0 && what != 1) {
            return NONE;
        }
        int nearest = LACKING;
        int fewest = LACKING;
        for (int other = 0; other < cuts.size; other++) {
            int far = steps(now.place[c], now.place[other]);
            if (other != c && (nearest == LACKING || far < fewest)) {
                nearest = other;
                fewest = far;
            }
        }
        return what == 0 ? nearest : fewest;
    }

    public int strays(int c, int n) {
        if (!isCut(c) || !isSpan(n)) {
            return NONE;
        }
        trial.copyOf(now, cuts.size);
        int most = 0;
        for (int gone = 0; gone < n && trial.season < LAST_SEASON; gone++) {
            walk.season(trial);
            most = Math.max(most, steps(cuts.tree[c], trial.place[c]));
        }
        return most;
    }

    public int dates(int what) {
        if (what < 0 || what > 2) {
            return NONE;
        }
        int dated = 0;
        int lowest = LACKING;
        int highest = LACKING;
        for (int c = 0; c < cuts.size; c++) {
            int date = cuts.date[c];
            if (date != LACKING) {
                dated++;
                lowest = lowest == LACKING ? date : Math.min(lowest, date);
                highest = Math.max(highest, date);
            }
        }
        if (what == 0) {
            return dated;
        }
        return what == 1 ? lowest : highest;
    }

    public int busiest(int what) {
        if (what != 0 && what != 1) {
            return NONE;
        }
        int place = LACKING;
        int most = 0;
        for (int c = 0; c < cuts.size; c++) {
            int here = cuts.dwelling[c];
            int dwellers = cuts.dwellersAt(here);
            if (dwellers > most || dwellers == most && here < place) {
                place = here;
                most = dwellers;
            }
        }
        return what == 0 ? place : most;
    }

    public int yard(int left, int right, int top, int bottom) {
        boolean isWide = isAcross(left) && isAcross(right) && left <= right;
        boolean isLong = isAlong(top) && isAlong(bottom) && top <= bottom;
        if (!isWide || !isLong) {
            return NONE;
        }
        grove.gather(cuts, now);
        return grove.within(left, right, top, bottom);
    }

    public int groups(int steps, int what) {
        if (steps < 0 || steps > WIDTH + HEIGHT - 2 || what != ALL && !isCut(what)) {
            return NONE;
        }
        if (what != ALL) {
            return groupOf(what, steps);
        }
        int found = 0;
        int seen = 0;
        for (int c = 0; c < cuts.size; c++) {
            if ((seen >> c & 1) == 0) {
                found++;
                seen |= groupOf(c, steps);
            }
        }
        return found;
    }

    public int fence(int what) {
        if (what != 0 && what != 1) {
            return NONE;
        }
        grove.gather(cuts, now);
        grove.putFence();
        return what == 0 ? grove.corners : grove.twiceGround();
    }

    public int crossing() {
        int twos = 0;
        for (int c = 0; c < cuts.size; c++) {
            for (int d = c + 1; d < cuts.size; d++) {
                if (doCross(cuts.tree[c], cuts.dwelling[c], cuts.tree[d], cuts.dwelling[d])) {
                    twos++;
                }
            }
        }
        return twos;
    }

    public int paths() {
        grove.gather(cuts, now);
        return grove.leastPaths();
    }

    public int trees() {
        grove.gather(cuts, now);
        return grove.size;
    }

    public int round(int cuts, int what) {
        boolean isOfCuts = cuts > 0 && cuts >> this.cuts.size == 0;
        if (!isOfCuts || Integer.bitCount(cuts) > Rows.MOST_TOLD || what != 0 && what != 1) {
            return NONE;
        }
        rows.tellRound(this.cuts, cuts);
        return what == 0 ? rows.fewest : rows.comesFirst;
    }

    public int words(int n, int what) {
        if (n < 1 || n > Spelling.MOST_BYTES || n > tape.size || what != 0 && what != 1) {
            return NONE;
        }
        boolean isRight = spelling.read(tape, n);
        tape.clear();
        if (!isRight) {
            return WRONG_WORDS;
        }
        spelling.stock(cuts, now);
        int bits = spelling.mostAtOnce();
        return what == 0 ? Integer.bitCount(bits) : bits;
    }

    public int marriages(int n, int what) {
        if (n < 2 || n > Matches.MOST || 2 * n * n > tape.size) {
            return NONE;
        }
        if (what != ALL && (what < 0 || what >= n)) {
            return NONE;
        }
        boolean isRight = matches.read(tape, n);
        tape.clear();
        if (!isRight) {
            return WRONG_ROW;
        }
        return what == ALL ? matches.howManyLast() : matches.whomGets(what);
    }

    public int orders(int n, int m, int what) {
        if (n < 2 || n > Rows.MOST_ORDERED || m < 1 || m > Rows.MOST_TWOS || 2 * m > tape.size) {
            return NONE;
        }
        if (what != ALL && (what < 0 || what >= n)) {
            return NONE;
        }
        boolean isRight = rows.readTwos(tape, n, m);
        tape.clear();
        if (!isRight) {
            return WRONG_ROW;
        }
        int found = rows.tellOrders(n);
        return what == ALL ? found : rows.earliest(n, what);
    }

    public boolean seed(int x) {
        if (x < 0 || x > 65535) {
            return false;
        }
        now.draw = x;
        return true;
    }

    public int keep() {
        kept.copyOf(now, cuts.size);
        keptCuts = cuts.size;
        isKept = true;
        return now.season;
    }

    public boolean undo() {
        if (!isKept) {
            return false;
        }
        now.copyOf(kept, Math.min(keptCuts, cuts.size));
        return true;
    }

    public int check(int n) {
        if (n < 0 || n > MOST_CUTS || n > tape.size) {
            return NOT_CHECKED;
        }
        int wrong = NONE;
        for (int c = n - 1; c >= 0; c--) {
            int due = isCut(c) ? now.memory[c] : NO_CUT;
            if (tape.byteAt(c) != due) {
                wrong = c;
            }
        }
        tape.clear();
        return wrong;
    }

    public int count(int what) {
        switch (what) {
            case 0: return now.season;
            case 1: return cuts.size;
            case 2: return now.bitsOf(ABOUT, cuts.size);
            case 3: return now.bitsOf(ROOTED, cuts.size);
            case 4: return now.calledByAll(cuts.size);
            case 5: return rules.size;
            case 6: return tape.size;
            case 7: return now.draw;
            default: return NONE;
        }
    }

    private boolean isCut(int c) {
        return c >= 0 && c < cuts.size;
    }

    /** A group grows by those near one of it, who is asked once. */
    private int groupOf(int c, int far) {
        int group = 1 << c;
        int asked = 0;
        for (int go = 0; go < cuts.size && asked != group; go++) {
            int next = Integer.numberOfTrailingZeros(group & ~asked);
            asked |= 1 << next;
            group |= nearTo(next, far);
        }
        return group;
    }

    private int nearTo(int c, int far) {
        int bits = 0;
        for (int d = 0; d < cuts.size; d++) {
            if (steps(now.place[c], now.place[d]) <= far) {
                bits |= 1 << d;
            }
        }
        return bits;
    }

    private static boolean isSpan(int n) {
        return n >= 1 && n <= MOST_SEASONS;
    }

    private static boolean isAcross(int x) {
        return x >= 0 && x < WIDTH;
    }

    private static boolean isAlong(int y) {
        return y >= 0 && y < HEIGHT;
    }

    private static boolean isDigit(int sign) {
        return sign >= '0' && sign <= '9';
    }

    private static int steps(int a, int b) {
        return Math.abs(a % WIDTH - b % WIDTH) + Math.abs(a / WIDTH - b / WIDTH);
    }

    /** Above 0 if c is on one side of the way from a to b, below on the other, 0 in line. */
    private static int side(int a, int b, int c) {
        int across = b % WIDTH - a % WIDTH;
        int along = b / WIDTH - a / WIDTH;
        return across * (c / WIDTH - a / WIDTH) - along * (c % WIDTH - a % WIDTH);
    }

    private static boolean isOnWay(int a, int b, int c) {
        return side(a, b, c) == 0
            && steps(a, c) + steps(c, b) == steps(a, b);
    }

    private static boolean doCross(int a, int b, int c, int d) {
        boolean isParted = Integer.signum(side(a, b, c)) * Integer.signum(side(a, b, d)) < 0;
        boolean parts = Integer.signum(side(c, d, a)) * Integer.signum(side(c, d, b)) < 0;
        return isParted && parts
            || isOnWay(a, b, c) || isOnWay(a, b, d) || isOnWay(c, d, a) || isOnWay(c, d, b);
    }

    /** The bytes that wait to be read, and how far a text of them has been read. */
    private static final class Tape {
        private static final int MOST_BYTES = 260;
        private static final int FED = 20;

        private final int[] bytes;
        private int size;
        private int end;
        private int at;
        private int fault;

        Tape() {
            bytes = new int[MOST_BYTES];
            size = 0;
            end = 0;
            at = 0;
            fault = 0;
        }

        void addWord(int word) {
            for (int shift = 24; shift >= 0 && size < bytes.length; shift -= 8) {
                bytes[size] = word >> shift & 255;
                size++;
            }
        }

        int byteAt(int i) {
            return i >= 0 && i < size ? bytes[i] : END;
        }

        void clear() {
            size = 0;
        }

        void beginText(int n) {
            end = Math.min(n, size);
            at = 0;
            fault = 0;
        }

        /** Behind a fault nothing more is there to read: so the first one stays the only one. */
        int sign() {
            return fault == 0 && at >= 0 && at < end ? bytes[at] : END;
        }

        void fail(int number, int place) {
            if (fault == 0) {
                fault = -1000 * number - place;
            }
        }

        boolean mayTake(char due) {
            boolean isThere = sign() == due;
            if (isThere) {
                at++;
            }
            return isThere;
        }

        void take(char due) {
            if (sign() == due) {
                at++;
            } else {
                fail(1, at);
            }
        }

        int endText(int told) {
            if (at < end) {
                fail(1, at);
            }
            return fault == 0 ? told : fault;
        }
    }

    /** What the bark tells of each cut, and its home. */
    private static final class Cuts {
        private final int[] tree;
        private final int[] first;
        private final int[] second;
        private final int[] heart;
        private final int[] crossed;
        private final int[] arrow;
        private final int[] date;
        private final int[] dwelling;
        private int size;

        Cuts() {
            tree = new int[MOST_CUTS];
            first = new int[MOST_CUTS];
            second = new int[MOST_CUTS];
            heart = new int[MOST_CUTS];
            crossed = new int[MOST_CUTS];
            arrow = new int[MOST_CUTS];
            date = new int[MOST_CUTS];
            dwelling = new int[MOST_CUTS];
            size = 0;
        }

        void copyOf(Cuts other) {
            System.arraycopy(other.tree, 0, tree, 0, MOST_CUTS);
            System.arraycopy(other.first, 0, first, 0, MOST_CUTS);
            System.arraycopy(other.second, 0, second, 0, MOST_CUTS);
            System.arraycopy(other.heart, 0, heart, 0, MOST_CUTS);
            System.arraycopy(other.crossed, 0, crossed, 0, MOST_CUTS);
            System.arraycopy(other.arrow, 0, arrow, 0, MOST_CUTS);
            System.arraycopy(other.date, 0, date, 0, MOST_CUTS);
            System.arraycopy(other.dwelling, 0, dwelling, 0, MOST_CUTS);
            size = other.size;
        }

        int letterBits(int c) {
            int bits = 1 << first[c];
            return second[c] < 0 ? bits : bits | 1 << second[c];
        }

        int dwellersAt(int place) {
            int dwellers = 0;
            for (int c = 0; c < size; c++) {
                if (dwelling[c] == place) {
                    dwellers++;
                }
            }
            return dwellers;
        }
    }

    /** Reads bark into a draft, so that a fault leaves the cuts as they are. */
    private static final class BarkReader {
        private static final int MOST_BYTES = 160;

        private final Tape tape;
        private final Cuts draft;

        BarkReader(Tape tape) {
            this.tape = tape;
            draft = new Cuts();
        }

        int read(int n) {
            tape.beginText(n);
            draft.size = 0;
            boolean isMore = true;
            for (int c = 0; c <= MOST_CUTS && isMore; c++) {
                cut(c);
                isMore = tape.mayTake(';');
            }
            return tape.endText(draft.size);
        }

        private void cut(int c) {
            if (c >= MOST_CUTS) {
                tape.fail(isDigit(tape.sign()) ? 4 : 1, tape.at);
                return;
            }
            int x = number(WIDTH - 1);
            tape.take(',');
            int y = number(HEIGHT - 1);
            tape.take(':');
            draft.tree[c] = WIDTH * y + x;
            draft.dwelling[c] = draft.tree[c];
            draft.crossed[c] = tape.mayTake('x') ? 1 : 0;
            draft.heart[c] = tape.mayTake('[') ? 1 : 0;
            draft.first[c] = letter();
            draft.second[c] = secondOne(draft.first[c]);
            if (draft.heart[c] == 1) {
                tape.take(']');
            }
            draft.date[c] = isDigit(tape.sign()) ? 10 * digit() + digit() : LACKING;
            draft.arrow[c] = tape.mayTake('>') ? 1 : 0;
            draft.size = c + 1;
        }

        private int digit() {
            int sign = tape.sign();
            if (!isDigit(sign)) {
                tape.fail(1, tape.at);
                return 0;
            }
            tape.at++;
            return sign - '0';
        }

        private int number(int most) {
            int start = tape.at;
            int value = digit();
            if (isDigit(tape.sign())) {
                value = 10 * value + digit();
            }
            if (isDigit(tape.sign())) {
                tape.fail(2, tape.at);
            }
            if (value > most) {
                tape.fail(3, start);
            }
            return value;
        }

        private static boolean isLetter(int sign) {
            return sign >= 'A' && sign < 'A' + MOST_LETTERS;
        }

        private int letter() {
            int sign = tape.sign();
            if (!isLetter(sign)) {
                tape.fail(1, tape.at);
                return 0;
            }
            tape.at++;
            return sign - 'A';
        }

        private int secondOne(int before) {
            int none = tape.mayTake('&') ? AMPERSAND : LACKING;
            if (!isLetter(tape.sign())) {
                return none;
            }
            int start = tape.at;
            int second = letter();
            if (second == before) {
                tape.fail(6, start);
            }
            return second;
        }
    }

    /** The rules as rows of cells for a stack: a cell is a sign and, 256 times, its number. */
    private static final class Law {
        private static final int MOST_BYTES = 240;
        private static final int MOST_RULES = 16;
        private static final int MOST_STACKED = 64;
        private static final String LETTERS = "csmhlakdntw";
        private static final char NUMBER = '0';
        private static final char LETTER = 'a';

        private final int[] kind;
        private final int[] worthFrom;
        private final int[] testFrom;
        private final int[] testTo;
        private final int[] cells;
        private final int[] stack;
        private int size;
        private int length;
        private boolean isRefused;

        Law() {
            kind = new int[MOST_RULES];
            worthFrom = new int[MOST_RULES];
            testFrom = new int[MOST_RULES];
            testTo = new int[MOST_RULES];
            cells = new int[MOST_BYTES];
            stack = new int[MOST_STACKED];
            size = 0;
            length = 0;
            isRefused = false;
        }

        void copyOf(Law other) {
            System.arraycopy(other.kind, 0, kind, 0, MOST_RULES);
            System.arraycopy(other.worthFrom, 0, worthFrom, 0, MOST_RULES);
            System.arraycopy(other.testFrom, 0, testFrom, 0, MOST_RULES);
            System.arraycopy(other.testTo, 0, testTo, 0, MOST_RULES);
            System.arraycopy(other.cells, 0, cells, 0, MOST_BYTES);
            size = other.size;
            length = other.length;
        }

        void add(char sign, int number) {
            if (length < cells.length) {
                cells[length] = 256 * number + sign;
                length++;
            }
        }

        /** The jumps that end at one place hang together by their numbers, till that is known. */
        int addJump(char sign, int jumpBefore) {
            add(sign, jumpBefore + 1);
            return length - 1;
        }

        void endJumps(int lastJump) {
            int jump = lastJump;
            for (int i = 0; i < cells.length && jump >= 0 && jump < cells.length; i++) {
                int jumpBefore = (cells[jump] >> 8) - 1;
                cells[jump] = 256 * length + (cells[jump] & 255);
                jump = jumpBefore;
            }
        }

        boolean fells(int[] letters) {
            for (int r = 0; r < size; r++) {
                if (kind[r] == 'x' && holds(r, letters)) {
                    return true;
                }
            }
            return false;
        }

        int worthOf(char asked, int none, int most, int[] letters) {
            for (int r = 0; r < size; r++) {
                if (kind[r] == asked && holds(r, letters)) {
                    int worth = reckon(worthFrom[r], testFrom[r], letters);
                    return Math.max(0, Math.min(most, worth));
                }
            }
            return none;
        }

        private boolean holds(int r, int[] letters) {
            return reckon(testFrom[r], testTo[r], letters) != 0;
        }

        /** What is refused answers 0: a condition does not hold then, and a worth is 0. */
        private int reckon(int from, int to, int[] letters) {
            isRefused = false;
            int top = 0;
            stack[0] = 0;
            for (int i = from; i < to && i < cells.length && !isRefused; i++) {
                int sign = cells[i] & 255;
                int number = cells[i] >> 8;
                if (sign == NUMBER || sign == LETTER) {
                    top = Math.min(top + 1, MOST_STACKED - 1);
                    stack[top] = operand(sign, number, letters);
                } else if (sign == '!') {
                    stack[top] = 1 - stack[top];
                } else if (sign == '&' || sign == '|') {
                    boolean isSettled = sign == '&' ? stack[top] == 0 : stack[top] != 0;
                    if (isSettled) {
                        i = Math.max(i, number - 1);
                    } else {
                        top = Math.max(top - 1, 0);
                    }
                } else {
                    top = Math.max(top - 1, 0);
                    stack[top] = joined(sign, stack[top], stack[top + 1]);
                }
            }
            return isRefused ? 0 : stack[top];
        }

        private static int operand(int sign, int number, int[] letters) {
            boolean isLetter = sign == LETTER && number >= 0 && number < letters.length;
            return isLetter ? letters[number] : number;
        }

        private int joined(int sign, int left, int right) {
            switch (sign) {
                case '+': return left + right;
                case '-': return left - right;
                case '*': return left * right;
                case '<': return left < right ? 1 : 0;
                case '>': return left > right ? 1 : 0;
                case '=': return left == right ? 1 : 0;
                default: break;
            }
            if (right == 0) {
                isRefused = true;
                return 0;
            }
            return sign == '/' ? left / right : left % right;
        }
    }

    /** Reads a law into a draft, so that a fault leaves the one before. */
    private static final class LawReader {
        private static final int MOST_OPEN = 6;
        private static final int MOST_DIGITS = 5;
        private static final int NO_JUMP = -1;

        private final Tape tape;
        private final Law draft;

        LawReader(Tape tape) {
            this.tape = tape;
            draft = new Law();
        }

        int read(int n) {
            tape.beginText(n);
            draft.size = 0;
            draft.length = 0;
            boolean isMore = true;
            for (int r = 0; r <= Law.MOST_RULES && isMore; r++) {
                rule(r);
                isMore = tape.mayTake(';');
            }
            return tape.endText(draft.size);
        }

        private void rule(int r) {
            int kind = tape.sign();
            if (kind != 'v' && kind != 'f' && kind != 'x') {
                tape.fail(1, tape.at);
                return;
            }
            if (r >= Law.MOST_RULES) {
                tape.fail(4, tape.at);
                return;
            }
            tape.at++;
            draft.kind[r] = kind;
            draft.worthFrom[r] = draft.length;
            if (kind != 'x') {
                sum(0);
            }
            draft.testFrom[r] = draft.length;
            tape.take('(');
            condition(1);
            tape.take(')');
            draft.testTo[r] = draft.length;
            draft.size = r + 1;
        }

        private boolean mayOpen(int open) {
            if (open < MOST_OPEN) {
                tape.at++;
                return true;
            }
            tape.fail(5, tape.at);
            return false;
        }

        private void condition(int open) {
            int partEnds = NO_JUMP;
            int wholeEnds = NO_JUMP;
            boolean isMore = true;
            for (int i = 0; i < Law.MOST_BYTES && isMore; i++) {
                test(open);
                boolean isAnd = tape.mayTake('&');
                boolean isOr = !isAnd && tape.mayTake('|');
                if (isAnd) {
                    partEnds = draft.addJump('&', partEnds);
                } else {
                    draft.endJumps(partEnds);
                    partEnds = NO_JUMP;
                }
                if (isOr) {
                    wholeEnds = draft.addJump('|', wholeEnds);
                }
                isMore = isAnd || isOr;
            }
            draft.endJumps(wholeEnds);
        }

        private void test(int open) {
            int start = tape.sign();
            if (start == '!') {
                if (mayOpen(open)) {
                    test(open + 1);
                    draft.add('!', 0);
                }
                return;
            }
            if (start == '(') {
                if (mayOpen(open)) {
                    condition(open + 1);
                    tape.take(')');
                }
                return;
            }
            sum(open);
            int than = tape.sign();
            if (than != '<' && than != '>' && than != '=') {
                tape.fail(1, tape.at);
                return;
            }
            tape.at++;
            sum(open);
            draft.add((char) than, 0);
        }

        /** A + or - waits till the product behind it has ended. */
        private void sum(int open) {
            int plus = 0;
            int times = 0;
            boolean isMore = true;
            for (int i = 0; i < Law.MOST_BYTES && isMore; i++) {
                factor(open);
                if (times != 0) {
                    draft.add((char) times, 0);
                }
                int joint = tape.sign();
                times = joint == '*' || joint == '/' || joint == '%' ? joint : 0;
                isMore = times != 0 || joint == '+' || joint == '-';
                if (times == 0 && plus != 0) {
                    draft.add((char) plus, 0);
                }
                if (times == 0) {
                    plus = joint;
                }
                if (isMore) {
                    tape.at++;
                }
            }
        }

        private void factor(int open) {
            int start = tape.sign();
            int letter = start >= 0 ? Law.LETTERS.indexOf((char) start) : -1;
            if (start == '[') {
                if (mayOpen(open)) {
                    sum(open + 1);
                    tape.take(']');
                }
            } else if (letter >= 0) {
                tape.at++;
                draft.add(Law.LETTER, letter);
            } else if (isDigit(start)) {
                int value = 0;
                for (int i = 0; i < MOST_DIGITS && isDigit(tape.sign()); i++) {
                    value = 10 * value + tape.sign() - '0';
                    tape.at++;
                }
                draft.add(Law.NUMBER, value);
                if (isDigit(tape.sign())) {
                    tape.fail(2, tape.at);
                }
            } else {
                tape.fail(1, tape.at);
            }
        }
    }

    /** How the cuts stand: what is kept, and what is tried on a copy. */
    private static final class Standing {
        private final int[] stage;
        private final int[] place;
        private final int[] memory;
        private final int[] called;
        private final int[] back;
        private int season;
        private int draw;

        Standing() {
            stage = new int[MOST_CUTS];
            place = new int[MOST_CUTS];
            memory = new int[MOST_CUTS];
            called = new int[MOST_CUTS];
            back = new int[MOST_CUTS];
            season = 0;
            draw = 1;
        }

        void begin(Cuts cuts) {
            for (int c = 0; c < cuts.size; c++) {
                stage[c] = GROWING;
                place[c] = cuts.tree[c];
                memory[c] = FULL_MEMORY;
                called[c] = 0;
                back[c] = 0;
            }
        }

        void copyOf(Standing other, int cuts) {
            int several = Math.max(0, Math.min(cuts, MOST_CUTS));
            System.arraycopy(other.stage, 0, stage, 0, several);
            System.arraycopy(other.place, 0, place, 0, several);
            System.arraycopy(other.memory, 0, memory, 0, several);
            System.arraycopy(other.called, 0, called, 0, several);
            System.arraycopy(other.back, 0, back, 0, several);
            season = other.season;
            draw = other.draw;
        }

        int nextDraw() {
            draw = (25173 * draw + 13849) % 65536;
            return draw % 10;
        }

        boolean areTogether(int c, int d) {
            return stage[c] == ABOUT && stage[d] == ABOUT && place[c] == place[d];
        }

        int bitsOf(int asked, int cuts) {
            int bits = 0;
            for (int c = 0; c < cuts && c < MOST_CUTS; c++) {
                if (stage[c] == asked) {
                    bits |= 1 << c;
                }
            }
            return bits;
        }

        int calledByAll(int cuts) {
            int sum = 0;
            for (int c = 0; c < cuts && c < MOST_CUTS; c++) {
                sum += called[c];
            }
            return sum;
        }
    }

    /** Lets seasons go by over a standing, by the law. */
    private static final class Walk {
        private final Cuts cuts;
        private final Law rules;
        private final int[] values;

        Walk(Cuts cuts, Law rules) {
            this.cuts = cuts;
            this.rules = rules;
            values = new int[11];
        }

        int go(Standing on, int n) {
            int calls = 0;
            for (int gone = 0; gone < n; gone++) {
                calls += season(on);
            }
            return calls;
        }

        /** Behind the last season none goes by, and all stays. */
        int season(Standing on) {
            if (on.season >= LAST_SEASON) {
                return 0;
            }
            int calls = 0;
            for (int c = 0; c < cuts.size; c++) {
                if (on.stage[c] != ROOTED && on.stage[c] != FELLED) {
                    calls += grow(on, c);
                }
            }
            on.season++;
            return calls;
        }

        private int grow(Standing on, int c) {
            tellValues(on, c);
            boolean isFelled = rules.fells(values);
            int steps = rules.worthOf('v', 1, 9, values);
            int lost = rules.worthOf('f', 0, FULL_MEMORY, values);
            if (isFelled) {
                on.stage[c] = FELLED;
                return 0;
            }
            int calls = 0;
            if (on.stage[c] == GROWING) {
                on.stage[c] = UP;
            } else if (on.stage[c] == UP) {
                on.stage[c] = ABOUT;
            } else {
                calls = goAbout(on, c, steps);
            }
            forget(on, c, lost);
            return calls;
        }

        /** In the order of the letters of the law. */
        private void tellValues(Standing on, int c) {
            values[0] = c;
            values[1] = on.stage[c];
            values[2] = on.memory[c];
            values[3] = cuts.heart[c];
            values[4] = cuts.crossed[c];
            values[5] = cuts.arrow[c];
            values[6] = on.called[c];
            values[7] = steps(on.place[c], aim(on, c));
            values[8] = othersAt(on, c);
            values[9] = on.season % 100;
            values[10] = on.nextDraw();
        }

        private int othersAt(Standing on, int c) {
            int others = 0;
            for (int d = 0; d < cuts.size; d++) {
                if (d != c && on.stage[d] == ABOUT && on.place[d] == on.place[c]) {
                    others++;
                }
            }
            return others;
        }

        private int aim(Standing on, int c) {
            return on.back[c] == 1 ? cuts.tree[c] : cuts.dwelling[c];
        }

        private int goAbout(Standing on, int c, int told) {
            int many = (cuts.crossed[c] == 1 ? told / 2 : told) + cuts.arrow[c];
            int calls = turn(on, c);
            for (int i = 0; i < many; i++) {
                on.place[c] = oneStep(on.place[c], aim(on, c));
                calls += turn(on, c);
            }
            return calls;
        }

        private static int oneStep(int from, int to) {
            int across = Integer.compare(to % WIDTH, from % WIDTH);
            int along = Integer.compare(to / WIDTH, from / WIDTH);
            return across != 0 ? from + across : from + WIDTH * along;
        }

        private int turn(Standing on, int c) {
            if (on.place[c] != aim(on, c)) {
                return 0;
            }
            on.back[c] = 1 - on.back[c];
            if (on.back[c] == 0) {
                return 0;
            }
            on.called[c] = Math.min(on.called[c] + 1, MOST_CALLS);
            on.memory[c] = FULL_MEMORY;
            return 1;
        }

        private void forget(Standing on, int c, int told) {
            int lost = cuts.heart[c] == 1 ? told / 2 : told;
            on.memory[c] = Math.max(0, on.memory[c] - lost);
            if (on.memory[c] == 0) {
                on.stage[c] = ROOTED;
            }
        }
    }

    /** The unlike places of trees, and what goes round or between them. */
    private static final class Grove {
        private static final int MOST_TREES = 2 * MOST_CUTS;

        private final int[] spots;
        private final int[] hull;
        private final int[] far;
        private int size;
        private int corners;

        Grove() {
            spots = new int[MOST_TREES];
            hull = new int[2 * MOST_TREES];
            far = new int[MOST_TREES];
            size = 0;
            corners = 0;
        }

        void gather(Cuts cuts, Standing on) {
            size = 0;
            for (int c = 0; c < cuts.size; c++) {
                put(cuts.tree[c]);
                if (on.stage[c] == ROOTED) {
                    put(on.place[c]);
                }
            }
        }

        /** The spots stay sorted by their numbers, as the fence needs them. */
        private void put(int place) {
            int at = 0;
            for (int i = 0; i < size; i++) {
                if (spots[i] < place) {
                    at = i + 1;
                }
            }
            boolean isThere = at < size && spots[at] == place;
            if (isThere || size >= MOST_TREES) {
                return;
            }
            for (int i = size; i > at; i--) {
                spots[i] = spots[i - 1];
            }
            spots[at] = place;
            size++;
        }

        int within(int left, int right, int top, int bottom) {
            int trees = 0;
            for (int i = 0; i < size; i++) {
                int x = spots[i] % WIDTH;
                int y = spots[i] / WIDTH;
                if (x >= left && x <= right && y >= top && y <= bottom) {
                    trees++;
                }
            }
            return trees;
        }

        /** One side from the first spot to the last, the other one back; each leaves its end out. */
        void putFence() {
            corners = 0;
            for (int i = 0; i < size; i++) {
                addCorner(spots[i], 0);
            }
            corners = Math.max(0, corners - 1);
            int start = corners;
            for (int i = size - 1; i >= 0; i--) {
                addCorner(spots[i], start);
            }
            if (size > 1) {
                corners--;
            }
        }

        private void addCorner(int place, int start) {
            for (int i = 0; i < MOST_TREES && corners - start >= 2; i++) {
                if (side(hull[corners - 2], hull[corners - 1], place) > 0) {
                    break;
                }
                corners--;
            }
            if (corners < hull.length) {
                hull[corners] = place;
                corners++;
            }
        }

        int twiceGround() {
            int ground = 0;
            for (int i = 0; i + 2 < corners; i++) {
                ground += side(hull[0], hull[i + 1], hull[i + 2]);
            }
            return Math.abs(ground);
        }

        /** Each go joins the tree that is nearest to those that are joined; a joined one is 0 far. */
        int leastPaths() {
            for (int i = 0; i < size; i++) {
                far[i] = steps(spots[0], spots[i]);
            }
            int sum = 0;
            for (int go = 1; go < size; go++) {
                int next = nearestUnjoined();
                sum += far[next];
                for (int i = 0; i < size; i++) {
                    far[i] = Math.min(far[i], steps(spots[next], spots[i]));
                }
            }
            return sum;
        }

        private int nearestUnjoined() {
            int next = 0;
            for (int i = 1; i < size; i++) {
                if (far[i] > 0 && (far[next] == 0 || far[i] < far[next])) {
                    next = i;
                }
            }
            return next;
        }
    }

    /** Rows of cuts, by a table over all sets of them: the round, and the orders. */
    private static final class Rows {
        private static final int MOST_TOLD = 9;
        private static final int MOST_ORDERED = 10;
        private static final int MOST_TWOS = 20;
        /** More steps than any round can have. */
        private static final int BEYOND_ALL = 1000000;

        private final int[] table;
        private final int[] told;
        private final int[] spots;
        private final int[] ahead;
        private int fewest;
        private int comesFirst;

        Rows() {
            table = new int[(1 << MOST_TOLD) * MOST_TOLD];
            told = new int[MOST_TOLD];
            spots = new int[MOST_TOLD];
            ahead = new int[MOST_ORDERED];
            fewest = 0;
            comesFirst = 0;
        }

        void tellRound(Cuts cuts, int bits) {
            int many = 0;
            for (int c = 0; c < cuts.size; c++) {
                if ((bits >> c & 1) == 1 && many < MOST_TOLD) {
                    told[many] = c;
                    spots[many] = cuts.tree[c];
                    many++;
                }
            }
            int all = (1 << many) - 1;
            for (int set = 1; set <= all; set++) {
                for (int from = 0; from < many; from++) {
                    if ((set >> from & 1) == 1) {
                        table[MOST_TOLD * set + from] = wayHome(set, from, many);
                    }
                }
            }
            chooseFirst(all, many);
        }

        /** The fewest steps from one of a set through the others of it to 0, 0. */
        private int wayHome(int set, int from, int many) {
            int others = set ^ 1 << from;
            if (others == 0) {
                return steps(spots[from], 0);
            }
            int least = BEYOND_ALL;
            for (int next = 0; next < many; next++) {
                if ((others >> next & 1) == 1) {
                    int way = steps(spots[from], spots[next]) + table[MOST_TOLD * others + next];
                    least = Math.min(least, way);
                }
            }
            return least;
        }

        private void chooseFirst(int all, int many) {
            fewest = BEYOND_ALL;
            for (int i = 0; i < many; i++) {
                int way = steps(0, spots[i]) + table[MOST_TOLD * all + i];
                if (way < fewest) {
                    fewest = way;
                    comesFirst = told[i];
                }
            }
        }

        boolean readTwos(Tape tape, int n, int m) {
            for (int i = 0; i < MOST_ORDERED; i++) {
                ahead[i] = 0;
            }
            for (int i = 0; i < m; i++) {
                int one = tape.byteAt(2 * i);
                int other = tape.byteAt(2 * i + 1);
                if (one < 0 || one >= n || other < 0 || other >= n || one == other) {
                    return false;
                }
                ahead[other] |= 1 << one;
            }
            return true;
        }

        /** A set can be the cuts made first in as many orders as its last one leaves. */
        int tellOrders(int n) {
            int all = (1 << n) - 1;
            table[0] = 1;
            for (int set = 1; set <= all; set++) {
                int ways = 0;
                for (int last = 0; last < n; last++) {
                    int others = set & ~(1 << last);
                    if (others != set && (ahead[last] & ~others) == 0) {
                        ways += table[others];
                    }
                }
                table[set] = ways;
            }
            return table[all];
        }

        int earliest(int n, int cut) {
            int all = (1 << n) - 1;
            if (table[all] == 0) {
                return LACKING;
            }
            int least = n;
            for (int set = 0; set <= all; set++) {
                boolean isBefore = (set >> cut & 1) == 0 && (ahead[cut] & ~set) == 0;
                if (isBefore && table[set] > 0) {
                    least = Math.min(least, Integer.bitCount(set));
                }
            }
            return least;
        }
    }

    /** Words spelt at once from the letters that go about. */
    private static final class Spelling {
        private static final int MOST_BYTES = 60;
        private static final int MOST_WORDS = 8;
        private static final int WORD_END = 255;

        private final int[] stocked;
        private final int[] needed;
        private int size;

        Spelling() {
            stocked = new int[MOST_LETTERS];
            needed = new int[MOST_WORDS * MOST_LETTERS];
            size = 0;
        }

        boolean read(Tape tape, int n) {
            for (int i = 0; i < needed.length; i++) {
                needed[i] = 0;
            }
            size = 0;
            int length = 0;
            for (int i = 0; i < n; i++) {
                int sign = tape.byteAt(i);
                boolean isEnd = sign == WORD_END;
                boolean isLetter = sign >= 0 && sign < MOST_LETTERS;
                if (size >= MOST_WORDS || isEnd && length == 0 || !isEnd && !isLetter) {
                    return false;
                }
                if (isEnd) {
                    size++;
                    length = 0;
                } else {
                    needed[MOST_LETTERS * size + sign]++;
                    length++;
                }
            }
            return length == 0;
        }

        void stock(Cuts cuts, Standing on) {
            for (int letter = 0; letter < MOST_LETTERS; letter++) {
                stocked[letter] = 0;
                for (int c = 0; c < cuts.size; c++) {
                    if (on.stage[c] == ABOUT) {
                        stocked[letter] += cuts.letterBits(c) >> letter & 1;
                    }
                }
            }
        }

        int mostAtOnce() {
            int best = 0;
            for (int set = 1; set < 1 << size; set++) {
                if (Integer.bitCount(set) > Integer.bitCount(best) && canSpell(set)) {
                    best = set;
                }
            }
            return best;
        }

        private boolean canSpell(int set) {
            for (int letter = 0; letter < MOST_LETTERS; letter++) {
                int left = stocked[letter];
                for (int word = 0; word < size; word++) {
                    left -= (set >> word & 1) * needed[MOST_LETTERS * word + letter];
                }
                if (left < 0) {
                    return false;
                }
            }
            return true;
        }
    }

    /** Marriages of two sides of which each ranks the other. */
    private static final class Matches {
        private static final int MOST = 6;
        private static final int FREE = -1;

        private final int[] wishes;
        private final int[] ranks;
        private final int[] otherRanks;
        private final int[] partner;
        private final int[] asked;
        private final int[] taker;
        private int size;

        Matches() {
            wishes = new int[MOST * MOST];
            ranks = new int[MOST * MOST];
            otherRanks = new int[MOST * MOST];
            partner = new int[MOST];
            asked = new int[MOST];
            taker = new int[MOST];
            size = 0;
        }

        boolean read(Tape tape, int n) {
            size = n;
            for (int one = 0; one < n; one++) {
                boolean isRight = readRow(tape, n * one, ranks, MOST * one)
                    && readRow(tape, n * n + n * one, otherRanks, MOST * one);
                if (!isRight) {
                    return false;
                }
                for (int i = 0; i < n; i++) {
                    wishes[MOST * one + ranks[MOST * one + i]] = i;
                }
            }
            return true;
        }

        private boolean readRow(Tape tape, int from, int[] into, int start) {
            int named = 0;
            for (int i = 0; i < size; i++) {
                int whom = tape.byteAt(from + i);
                if (whom < 0 || whom >= size || (named >> whom & 1) == 1) {
                    return false;
                }
                named |= 1 << whom;
                into[start + whom] = i;
            }
            return true;
        }

        /** Each go lets one that is free ask once; none asks anyone twice. */
        int whomGets(int one) {
            for (int i = 0; i < size; i++) {
                asked[i] = 0;
                partner[i] = FREE;
                taker[i] = FREE;
            }
            for (int go = 0; go < MOST * MOST; go++) {
                int free = oneFree();
                if (free == FREE) {
                    break;
                }
                ask(free);
            }
            return partner[one];
        }

        private int oneFree() {
            for (int i = 0; i < size; i++) {
                if (partner[i] == FREE && asked[i] < size) {
                    return i;
                }
            }
            return FREE;
        }

        private void ask(int one) {
            int whom = wishes[MOST * one + asked[one]];
            asked[one]++;
            int before = taker[whom];
            if (before != FREE && otherRanks[MOST * whom + before] < otherRanks[MOST * whom + one]) {
                return;
            }
            if (before != FREE) {
                partner[before] = FREE;
            }
            taker[whom] = one;
            partner[one] = whom;
        }

        int howManyLast() {
            return lasting(0, 0);
        }

        /** How many marriages last in which those before one have the partners that they have now. */
        private int lasting(int one, int taken) {
            if (one >= size) {
                return 1;
            }
            int found = 0;
            for (int whom = 0; whom < size; whom++) {
                partner[one] = whom;
                if ((taken >> whom & 1) == 0 && isAtPeace(one)) {
                    found += lasting(one + 1, taken | 1 << whom);
                }
            }
            return found;
        }

        private boolean isAtPeace(int one) {
            for (int other = 0; other < one; other++) {
                if (wouldRather(one, other) || wouldRather(other, one)) {
                    return false;
                }
            }
            return true;
        }

        /** One and the partner of another would rather have each other. */
        private boolean wouldRather(int one, int other) {
            int whom = partner[other];
            return ranks[MOST * one + whom] < ranks[MOST * one + partner[one]]
                && otherRanks[MOST * whom + one] < otherRanks[MOST * whom + other];
        }
    }
}
