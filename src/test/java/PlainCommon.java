import java.util.ArrayList;
import java.util.Arrays;
import java.util.HashSet;
import java.util.List;
import java.util.Set;
import java.util.TreeMap;
import java.util.TreeSet;

/**
 * The document once more, written apart from the class and with the Java library, by trying
 * everything where that can be done: what the class answers is held against it in random runs.
 */
final class PlainCommon {
    static final class Fault extends RuntimeException {
        private static final long serialVersionUID = 1L;
        final int answer;

        Fault(int number, int place) {
            answer = -1000 * number - place;
        }
    }

    static final class Refused extends RuntimeException {
        private static final long serialVersionUID = 1L;
    }

    static final class Cut {
        int treeX, treeY, homeX, homeY, x, y;
        List<Integer> letters = new ArrayList<>();
        boolean ampersand, heart, crossed, arrow, back;
        int date = -2;
        int state = 0;
        int memory = 99;
        int calls = 0;

        Cut copy() {
            Cut c = new Cut();
            c.treeX = treeX;
            c.treeY = treeY;
            c.homeX = homeX;
            c.homeY = homeY;
            c.letters = letters;
            c.ampersand = ampersand;
            c.heart = heart;
            c.crossed = crossed;
            c.arrow = arrow;
            c.date = date;
            c.standAs(this);
            return c;
        }

        void standAs(Cut o) {
            x = o.x;
            y = o.y;
            state = o.state;
            memory = o.memory;
            calls = o.calls;
            back = o.back;
        }
    }

    interface Num {
        int of(Asked a);
    }

    interface Test {
        boolean of(Asked a);
    }

    record Rule(char kind, Num worth, Test test) { }

    static final class Asked {
        final int[] values = new int[128];
    }

    List<Integer> tape = new ArrayList<>();
    List<Cut> cuts = new ArrayList<>();
    List<Rule> law = new ArrayList<>();
    int season = 0;
    long x = 1;
    List<Cut> keptCuts = null;
    int keptSeason;
    long keptX;

    boolean isCut(int c) {
        return 0 <= c && c < cuts.size();
    }

    boolean home(int c, int hx, int hy) {
        if (!isCut(c) || hx < 0 || hx > 23 || hy < 0 || hy > 15) {
            return false;
        }
        cuts.get(c).homeX = hx;
        cuts.get(c).homeY = hy;
        return true;
    }

    int feed(int... words) {
        if (tape.size() > 240) {
            return -1;
        }
        for (int word : words) {
            for (byte b : java.nio.ByteBuffer.allocate(4).putInt(word).array()) {
                tape.add(Byte.toUnsignedInt(b));
            }
        }
        return tape.size();
    }

    String take(int n) {
        StringBuilder text = new StringBuilder();
        for (int i = 0; i < n; i++) {
            text.append((char) (int) tape.get(i));
        }
        tape.clear();
        return text.toString();
    }

    int bark(int n) {
        if (n < 1 || n > 160 || n > tape.size()) {
            return -1;
        }
        try {
            cuts = barkOf(take(n));
            return cuts.size();
        } catch (Fault f) {
            return f.answer;
        }
    }

    /** By a table of what may stand where: a state and the signs that lead on from it. */
    static List<Cut> barkOf(String text) {
        List<Cut> told = new ArrayList<>();
        Cut cut = null;
        String state = "start";
        int number = 0;
        int begun = 0;
        for (int i = 0; i <= text.length(); i++) {
            char s = i < text.length() ? text.charAt(i) : 0;
            boolean isEnd = i == text.length();
            boolean isDigit = !isEnd && Character.digit(s, 10) >= 0 && s < 128;
            boolean isLetter = !isEnd && s >= 'A' && s <= 'P';
            boolean isX = state.startsWith("x");
            switch (state) {
                case "start":
                    if (!isDigit) {
                        throw new Fault(1, i);
                    }
                    if (told.size() == 16) {
                        throw new Fault(4, i);
                    }
                    cut = new Cut();
                    told.add(cut);
                    begun = i;
                    number = s - '0';
                    state = "x1";
                    break;
                case "x1":
                case "y1":
                    if (isDigit) {
                        number = 10 * number + s - '0';
                        state = isX ? "x2" : "y2";
                        break;
                    }
                    state = endNumber(cut, isX, number, begun, i, isEnd, s);
                    break;
                case "x2":
                case "y2":
                    if (isDigit) {
                        throw new Fault(2, i);
                    }
                    state = endNumber(cut, isX, number, begun, i, isEnd, s);
                    break;
                case "y0":
                    if (!isDigit) {
                        throw new Fault(1, i);
                    }
                    begun = i;
                    number = s - '0';
                    state = "y1";
                    break;
                case "colon":
                case "crossed":
                case "heart":
                    if (!isEnd && s == 'x' && state.equals("colon")) {
                        cut.crossed = true;
                        state = "crossed";
                    } else if (!isEnd && s == '[' && !state.equals("heart")) {
                        cut.heart = true;
                        state = "heart";
                    } else if (isLetter) {
                        cut.letters.add(s - 'A');
                        state = "letter";
                    } else {
                        throw new Fault(1, i);
                    }
                    break;
                case "letter":
                case "ampersand":
                    if (!isEnd && s == '&' && state.equals("letter")) {
                        cut.ampersand = true;
                        state = "ampersand";
                        break;
                    }
                    if (isLetter) {
                        if (cut.letters.get(0) == s - 'A') {
                            throw new Fault(6, i);
                        }
                        cut.letters.add(s - 'A');
                        state = "letters";
                        break;
                    }
                    state = behindLetters(cut, i, isEnd, s);
                    number = s - '0';
                    break;
                case "letters":
                    state = behindLetters(cut, i, isEnd, s);
                    number = s - '0';
                    break;
                case "shut":
                    state = behindHeart(cut, i, isEnd, s);
                    number = s - '0';
                    break;
                case "date1":
                    if (!isDigit) {
                        throw new Fault(1, i);
                    }
                    cut.date = 10 * number + s - '0';
                    state = "date2";
                    break;
                case "date2":
                    if (isDigit) {
                        throw new Fault(1, i);
                    }
                    state = behindHeart(cut, i, isEnd, s);
                    break;
                default:
                    if (isEnd) {
                        break;
                    }
                    if (s != ';') {
                        throw new Fault(1, i);
                    }
                    state = "start";
                    break;
            }
        }
        return told;
    }

    private static String endNumber(Cut cut, boolean isX, int number, int begun, int i, boolean isEnd, char s) {
        if (number > (isX ? 23 : 15)) {
            throw new Fault(3, begun);
        }
        if (isEnd || s != (isX ? ',' : ':')) {
            throw new Fault(1, i);
        }
        if (isX) {
            cut.treeX = number;
            cut.homeX = number;
            cut.x = number;
            return "y0";
        }
        cut.treeY = number;
        cut.homeY = number;
        cut.y = number;
        return "colon";
    }

    private static String behindLetters(Cut cut, int i, boolean isEnd, char s) {
        if (cut.heart) {
            if (isEnd || s != ']') {
                throw new Fault(1, i);
            }
            return "shut";
        }
        return behindHeart(cut, i, isEnd, s);
    }

    private static String behindHeart(Cut cut, int i, boolean isEnd, char s) {
        if (isEnd) {
            return "end";
        }
        if (s >= '0' && s <= '9') {
            return "date1";
        }
        if (s == '>') {
            cut.arrow = true;
            return "arrow";
        }
        if (s == ';') {
            return "start";
        }
        throw new Fault(1, i);
    }

    int law(int n) {
        if (n < 1 || n > 240 || n > tape.size()) {
            return -1;
        }
        try {
            law = new LawText(take(n)).rules();
            return law.size();
        } catch (Fault f) {
            return f.answer;
        }
    }

    /** Reads a law into functions. */
    static final class LawText {
        final String text;
        int at = 0;

        LawText(String text) {
            this.text = text;
        }

        char peek() {
            return at < text.length() ? text.charAt(at) : (char) 999;
        }

        void eat(String signs) {
            if (signs.indexOf(peek()) < 0) {
                throw new Fault(1, at);
            }
            at++;
        }

        void open(int depth) {
            if (depth > 6) {
                throw new Fault(5, at);
            }
            at++;
        }

        List<Rule> rules() {
            List<Rule> rules = new ArrayList<>();
            rules.add(rule(1));
            while (at < text.length()) {
                eat(";");
                rules.add(rule(rules.size() + 1));
            }
            return rules;
        }

        Rule rule(int number) {
            char kind = peek();
            if (kind != 'v' && kind != 'f' && kind != 'x') {
                throw new Fault(1, at);
            }
            if (number > 16) {
                throw new Fault(4, at);
            }
            at++;
            Num worth = kind == 'x' ? a -> 0 : sum(0);
            eat("(");
            Test test = any(1);
            eat(")");
            return new Rule(kind, worth, test);
        }

        Test any(int depth) {
            Test left = all(depth);
            if (peek() != '|') {
                return left;
            }
            at++;
            Test right = any(depth);
            return a -> left.of(a) || right.of(a);
        }

        Test all(int depth) {
            Test left = test(depth);
            if (peek() != '&') {
                return left;
            }
            at++;
            Test right = all(depth);
            return a -> left.of(a) && right.of(a);
        }

        Test test(int depth) {
            if (peek() == '!') {
                open(depth + 1);
                Test inner = test(depth + 1);
                return a -> !inner.of(a);
            }
            if (peek() == '(') {
                open(depth + 1);
                Test inner = any(depth + 1);
                eat(")");
                return inner;
            }
            Num left = sum(depth);
            char than = peek();
            eat("<>=");
            Num right = sum(depth);
            return a -> {
                int l = left.of(a);
                int r = right.of(a);
                return than == '<' ? l < r : than == '>' ? l > r : l == r;
            };
        }

        Num sum(int depth) {
            Num all = product(depth);
            while (peek() == '+' || peek() == '-') {
                boolean isPlus = peek() == '+';
                at++;
                Num left = all;
                Num right = product(depth);
                all = a -> isPlus ? left.of(a) + right.of(a) : left.of(a) - right.of(a);
            }
            return all;
        }

        Num product(int depth) {
            Num all = factor(depth);
            while (peek() == '*' || peek() == '/' || peek() == '%') {
                char by = peek();
                at++;
                Num left = all;
                Num right = factor(depth);
                all = a -> {
                    int l = left.of(a);
                    int r = right.of(a);
                    if (by != '*' && r == 0) {
                        throw new Refused();
                    }
                    return by == '*' ? l * r : by == '/' ? l / r : l % r;
                };
            }
            return all;
        }

        Num factor(int depth) {
            char start = peek();
            if (start == '[') {
                open(depth + 1);
                Num inner = sum(depth + 1);
                eat("]");
                return inner;
            }
            if (start >= '0' && start <= '9') {
                int begun = at;
                while (peek() >= '0' && peek() <= '9') {
                    if (at - begun == 5) {
                        throw new Fault(2, at);
                    }
                    at++;
                }
                int value = Integer.parseInt(text.substring(begun, at));
                return a -> value;
            }
            eat("csmhlakdntw");
            return a -> a.values[start];
        }
    }

    static boolean holds(Rule r, Asked a) {
        try {
            return r.test.of(a);
        } catch (Refused e) {
            return false;
        }
    }

    int ask(char kind, Asked a, int none, int most) {
        for (Rule r : law) {
            if (r.kind == kind && holds(r, a)) {
                try {
                    return Math.max(0, Math.min(most, r.worth.of(a)));
                } catch (Refused e) {
                    return 0;
                }
            }
        }
        return none;
    }

    static int far(int ax, int ay, int bx, int by) {
        return Math.abs(ax - bx) + Math.abs(ay - by);
    }

    int oneSeason() {
        if (season == 9999) {
            return 0;
        }
        int called = 0;
        for (int c = 0; c < cuts.size(); c++) {
            Cut cut = cuts.get(c);
            if (cut.state < 3) {
                called += growOne(cut, c);
            }
        }
        season++;
        return called;
    }

    private int growOne(Cut cut, int c) {
        x = (25173 * x + 13849) % 65536;
        Asked a = new Asked();
        a.values['c'] = c;
        a.values['s'] = cut.state;
        a.values['m'] = cut.memory;
        a.values['h'] = cut.heart ? 1 : 0;
        a.values['l'] = cut.crossed ? 1 : 0;
        a.values['a'] = cut.arrow ? 1 : 0;
        a.values['k'] = cut.calls;
        a.values['d'] = cut.back ? far(cut.x, cut.y, cut.treeX, cut.treeY) : far(cut.x, cut.y, cut.homeX, cut.homeY);
        a.values['n'] = (int) cuts.stream().filter(o -> o != cut && o.state == 2 && o.x == cut.x && o.y == cut.y).count();
        a.values['t'] = season % 100;
        a.values['w'] = (int) (x % 10);
        int v = ask('v', a, 1, 9);
        int f = ask('f', a, 0, 99);
        if (law.stream().anyMatch(r -> r.kind == 'x' && holds(r, a))) {
            cut.state = 4;
            return 0;
        }
        int called = 0;
        if (cut.state < 2) {
            cut.state++;
        } else {
            int steps = (cut.crossed ? v / 2 : v) + (cut.arrow ? 1 : 0);
            for (int i = 0; i <= steps; i++) {
                int goalX = cut.back ? cut.treeX : cut.homeX;
                int goalY = cut.back ? cut.treeY : cut.homeY;
                if (i > 0 && cut.x != goalX) {
                    cut.x += cut.x < goalX ? 1 : -1;
                } else if (i > 0 && cut.y != goalY) {
                    cut.y += cut.y < goalY ? 1 : -1;
                }
                if (cut.x == goalX && cut.y == goalY) {
                    if (!cut.back) {
                        called++;
                        cut.calls = Math.min(9999, cut.calls + 1);
                        cut.memory = 99;
                    }
                    cut.back = !cut.back;
                }
            }
        }
        cut.memory = Math.max(0, cut.memory - (cut.heart ? f / 2 : f));
        if (cut.memory == 0) {
            cut.state = 3;
        }
        return called;
    }

    int seasons(int n) {
        if (n < 1 || n > 100) {
            return -1;
        }
        int called = 0;
        for (int i = 0; i < n; i++) {
            called += oneSeason();
        }
        return called;
    }

    PlainCommon copy() {
        PlainCommon o = new PlainCommon();
        for (Cut c : cuts) {
            o.cuts.add(c.copy());
        }
        o.law = law;
        o.season = season;
        o.x = x;
        return o;
    }

    int bits(java.util.function.Predicate<Cut> which) {
        int bits = 0;
        for (int c = 0; c < cuts.size(); c++) {
            bits |= which.test(cuts.get(c)) ? 1 << c : 0;
        }
        return bits;
    }

    int tried(int n, int what) {
        boolean isRight = what >= 0 && what <= 2;
        for (int base = 20; base <= 60; base += 20) {
            isRight |= what >= base && what < base + cuts.size();
        }
        if (n < 1 || n > 100 || !isRight) {
            return -1;
        }
        PlainCommon o = copy();
        int called = o.seasons(n);
        if (what < 20) {
            return what == 0 ? called : o.bits(c -> c.state == what + 2);
        }
        Cut c = o.cuts.get(what % 20);
        return what < 40 ? 24 * c.y + c.x : what < 60 ? c.memory : c.state;
    }

    int cutIs(int n, int what) {
        if (!isCut(n) || what < 0 || what > 12) {
            return -1;
        }
        Cut c = cuts.get(n);
        int second = c.letters.size() == 2 ? c.letters.get(1) : c.ampersand ? -3 : -2;
        int[] all = {24 * c.treeY + c.treeX, c.letters.get(0), second, c.heart ? 1 : 0, c.crossed ? 1 : 0,
            c.arrow ? 1 : 0, c.date, 24 * c.homeY + c.homeX, 24 * c.y + c.x, c.memory, c.calls, c.state, c.back ? 1 : 0};
        return all[what];
    }

    int meet(int c, int d, int n) {
        if (!isCut(c) || !isCut(d) || c == d || n < 1 || n > 100) {
            return -1;
        }
        PlainCommon o = copy();
        for (int i = 0; i <= n; i++) {
            Cut a = o.cuts.get(c);
            Cut b = o.cuts.get(d);
            if (a.state == 2 && b.state == 2 && a.x == b.x && a.y == b.y) {
                return i;
            }
            o.oneSeason();
        }
        return -2;
    }

    int roots(int c, int n) {
        if (!isCut(c) || n < 1 || n > 100) {
            return -1;
        }
        PlainCommon o = copy();
        for (int i = 0; i <= n; i++) {
            if (o.cuts.get(c).state == 3) {
                return i;
            }
            o.oneSeason();
        }
        return -2;
    }

    int single(int what) {
        return what == 0 ? bits(c -> c.letters.size() == 1)
            : what == 1 ? bits(c -> c.letters.size() == 1 && c.ampersand) : -1;
    }

    int who(int letter) {
        return letter < 0 || letter > 15 ? -1 : bits(c -> c.letters.contains(letter));
    }

    int letters() {
        int bits = 0;
        for (Cut c : cuts) {
            for (int l : c.letters) {
                bits |= c.state == 2 ? 1 << l : 0;
            }
        }
        return bits;
    }

    int nearest(int n, int what) {
        if (!isCut(n) || what < 0 || what > 1) {
            return -1;
        }
        Cut c = cuts.get(n);
        TreeMap<Integer, Integer> byFar = new TreeMap<>();
        for (int o = cuts.size() - 1; o >= 0; o--) {
            if (o != n) {
                byFar.put(far(c.x, c.y, cuts.get(o).x, cuts.get(o).y), o);
            }
        }
        return byFar.isEmpty() ? -2 : what == 0 ? byFar.firstEntry().getValue() : byFar.firstKey();
    }

    int strays(int n, int span) {
        if (!isCut(n) || span < 1 || span > 100) {
            return -1;
        }
        PlainCommon o = copy();
        int most = 0;
        for (int i = 0; i < span && o.season < 9999; i++) {
            o.oneSeason();
            Cut c = o.cuts.get(n);
            most = Math.max(most, far(c.x, c.y, c.treeX, c.treeY));
        }
        return most;
    }

    int dates(int what) {
        TreeSet<Integer> all = new TreeSet<>();
        int many = 0;
        for (Cut c : cuts) {
            if (c.date >= 0) {
                all.add(c.date);
                many++;
            }
        }
        if (what < 0 || what > 2) {
            return -1;
        }
        return what == 0 ? many : all.isEmpty() ? -2 : what == 1 ? all.first() : all.last();
    }

    int busiest(int what) {
        int best = -2;
        int most = 0;
        for (int place = 0; place < 384; place++) {
            int here = place;
            int many = Integer.bitCount(bits(c -> 24 * c.homeY + c.homeX == here));
            if (many > most) {
                best = place;
                most = many;
            }
        }
        return what == 0 ? best : what == 1 ? most : -1;
    }

    Set<Integer> treeSet() {
        Set<Integer> all = new TreeSet<>();
        for (Cut c : cuts) {
            all.add(24 * c.treeY + c.treeX);
            if (c.state == 3) {
                all.add(24 * c.y + c.x);
            }
        }
        return all;
    }

    int yard(int left, int right, int top, int bottom) {
        if (left < 0 || right > 23 || left > right || top < 0 || bottom > 15 || top > bottom) {
            return -1;
        }
        return (int) treeSet().stream()
            .filter(p -> p % 24 >= left && p % 24 <= right && p / 24 >= top && p / 24 <= bottom).count();
    }

    int groups(int steps, int what) {
        if (steps < 0 || steps > 38 || what != 100 && !isCut(what)) {
            return -1;
        }
        int n = cuts.size();
        boolean[][] hang = new boolean[n][n];
        for (int i = 0; i < n; i++) {
            for (int j = 0; j < n; j++) {
                hang[i][j] = far(cuts.get(i).x, cuts.get(i).y, cuts.get(j).x, cuts.get(j).y) <= steps;
            }
        }
        for (int k = 0; k < n; k++) {
            for (int i = 0; i < n; i++) {
                for (int j = 0; j < n; j++) {
                    hang[i][j] |= hang[i][k] && hang[k][j];
                }
            }
        }
        Set<Integer> all = new HashSet<>();
        int own = 0;
        for (int i = 0; i < n; i++) {
            int bits = 0;
            for (int j = 0; j < n; j++) {
                bits |= hang[i][j] ? 1 << j : 0;
            }
            all.add(bits);
            own = i == what ? bits : own;
        }
        return what == 100 ? all.size() : own;
    }

    static int cross(int a, int b, int c) {
        return (b % 24 - a % 24) * (c / 24 - a / 24) - (b / 24 - a / 24) * (c % 24 - a % 24);
    }

    /** Sides of the fence: ordered twos that have every other tree on the left or between them. */
    int fence(int what) {
        if (what < 0 || what > 1) {
            return -1;
        }
        List<Integer> all = new ArrayList<>(treeSet());
        if (all.size() < 2) {
            return what == 0 ? all.size() : 0;
        }
        int sides = 0;
        int ground = 0;
        for (int a : all) {
            for (int b : all) {
                boolean isSide = a != b;
                for (int c : all) {
                    int turn = cross(a, b, c);
                    isSide &= turn > 0 || turn == 0 && between(a, b, c);
                }
                if (isSide) {
                    sides++;
                    ground += a % 24 * (b / 24) - b % 24 * (a / 24);
                }
            }
        }
        return what == 0 ? sides : ground;
    }

    static boolean between(int a, int b, int c) {
        return c % 24 >= Math.min(a % 24, b % 24) && c % 24 <= Math.max(a % 24, b % 24)
            && c / 24 >= Math.min(a / 24, b / 24) && c / 24 <= Math.max(a / 24, b / 24);
    }

    int crossing() {
        int twos = 0;
        for (int i = 0; i < cuts.size(); i++) {
            for (int j = 0; j < i; j++) {
                Cut a = cuts.get(i);
                Cut b = cuts.get(j);
                int upX = a.homeX - a.treeX;
                int upY = a.homeY - a.treeY;
                int otherX = b.homeX - b.treeX;
                int otherY = b.homeY - b.treeY;
                boolean isApart = apart(a, b, upX, upY) || apart(a, b, upY, -upX) || apart(a, b, otherX, otherY)
                    || apart(a, b, otherY, -otherX) || apart(a, b, a.treeX - b.treeX, a.treeY - b.treeY);
                twos += isApart ? 0 : 1;
            }
        }
        return twos;
    }

    /** Two ways without a common point have shadows without one along one of a few directions. */
    private static boolean apart(Cut a, Cut b, int alongX, int alongY) {
        int a1 = a.treeX * alongX + a.treeY * alongY;
        int a2 = a.homeX * alongX + a.homeY * alongY;
        int b1 = b.treeX * alongX + b.treeY * alongY;
        int b2 = b.homeX * alongX + b.homeY * alongY;
        return Math.max(a1, a2) < Math.min(b1, b2) || Math.max(b1, b2) < Math.min(a1, a2);
    }

    /** All twos by their steps, the shortest first, each taken if it joins two groups. */
    int paths() {
        List<Integer> all = new ArrayList<>(treeSet());
        int[] group = new int[all.size()];
        Arrays.setAll(group, i -> i);
        int sum = 0;
        for (int far = 1; far <= 38; far++) {
            for (int i = 0; i < group.length; i++) {
                for (int j = 0; j < i; j++) {
                    int a = all.get(i);
                    int b = all.get(j);
                    if (group[i] != group[j] && far(a % 24, a / 24, b % 24, b / 24) == far) {
                        int from = group[i];
                        int to = group[j];
                        Arrays.setAll(group, k -> group[k] == from ? to : group[k]);
                        sum += far;
                    }
                }
            }
        }
        return sum;
    }

    int trees() {
        return treeSet().size();
    }

    int bestSteps;
    int bestFirst;

    int round(int bits, int what) {
        if (bits <= 0 || bits >= 1 << cuts.size() || Integer.bitCount(bits) > 9 || what < 0 || what > 1) {
            return -1;
        }
        bestSteps = Integer.MAX_VALUE;
        tryRows(bits, 0, 0, 0, -1);
        return what == 0 ? bestSteps : bestFirst;
    }

    private void tryRows(int left, int atX, int atY, int gone, int first) {
        if (left == 0) {
            int all = gone + atX + atY;
            if (all < bestSteps) {
                bestSteps = all;
                bestFirst = first;
            }
            return;
        }
        for (int c = 0; c < cuts.size(); c++) {
            Cut cut = cuts.get(c);
            if ((left >> c & 1) == 1) {
                int more = gone + far(atX, atY, cut.treeX, cut.treeY);
                if (more < bestSteps) {
                    tryRows(left ^ 1 << c, cut.treeX, cut.treeY, more, first < 0 ? c : first);
                }
            }
        }
    }

    int words(int n, int what) {
        if (n < 1 || n > 60 || n > tape.size() || what < 0 || what > 1) {
            return -1;
        }
        String text = take(n);
        if (!text.matches("([\\x00-\\x0f]+\\xff){1,8}")) {
            return -2;
        }
        String[] words = text.split("\\xff");
        int best = 0;
        for (int set = 0; set < 1 << words.length; set++) {
            List<Integer> left = new ArrayList<>();
            for (Cut c : cuts) {
                if (c.state == 2) {
                    left.addAll(c.letters);
                }
            }
            boolean can = true;
            for (int w = 0; w < words.length; w++) {
                for (char l : (set >> w & 1) == 1 ? words[w].toCharArray() : new char[0]) {
                    can &= left.remove((Integer) (int) l);
                }
            }
            if (can && Integer.bitCount(set) > Integer.bitCount(best)) {
                best = set;
            }
        }
        return what == 0 ? Integer.bitCount(best) : best;
    }

    int marriages(int n, int what) {
        if (n < 2 || n > 6 || 2 * n * n > tape.size() || what != 100 && (what < 0 || what >= n)) {
            return -1;
        }
        String text = take(2 * n * n);
        List<List<Integer>> rows = new ArrayList<>();
        for (int i = 0; i < 2 * n; i++) {
            List<Integer> row = new ArrayList<>();
            for (char c : text.substring(n * i, n * i + n).toCharArray()) {
                row.add((int) c);
            }
            if (new TreeSet<>(row).size() != n || new TreeSet<>(row).last() >= n) {
                return -3;
            }
            rows.add(row);
        }
        List<int[]> lasting = new ArrayList<>();
        tryMatches(rows, n, new ArrayList<>(), lasting);
        if (what == 100) {
            return lasting.size();
        }
        // the first side's asking gives each of it the best that it has in any that lasts
        int best = -1;
        for (int[] m : lasting) {
            if (best < 0 || rows.get(what).indexOf(m[what]) < rows.get(what).indexOf(best)) {
                best = m[what];
            }
        }
        return best;
    }

    private static void tryMatches(List<List<Integer>> rows, int n, List<Integer> row, List<int[]> lasting) {
        if (row.size() < n) {
            for (int i = 0; i < n; i++) {
                if (!row.contains(i)) {
                    row.add(i);
                    tryMatches(rows, n, row, lasting);
                    row.remove(row.size() - 1);
                }
            }
            return;
        }
        for (int a = 0; a < n; a++) {
            for (int b = 0; b < n; b++) {
                List<Integer> wishes = rows.get(a);
                List<Integer> others = rows.get(n + b);
                if (wishes.indexOf(b) < wishes.indexOf(row.get(a))
                    && others.indexOf(a) < others.indexOf(row.indexOf(b))) {
                    return;
                }
            }
        }
        lasting.add(row.stream().mapToInt(i -> i).toArray());
    }

    private long orderCount;
    private int[] earliest;

    int orders(int n, int m, int what) {
        if (n < 2 || n > 10 || m < 1 || m > 20 || 2 * m > tape.size() || what != 100 && (what < 0 || what >= n)) {
            return -1;
        }
        String text = take(2 * m);
        int[] ahead = new int[n];
        for (int i = 0; i < m; i++) {
            int one = text.charAt(2 * i);
            int other = text.charAt(2 * i + 1);
            if (one >= n || other >= n || one == other) {
                return -3;
            }
            ahead[other] |= 1 << one;
        }
        orderCount = 0;
        earliest = new int[n];
        Arrays.fill(earliest, -2);
        tryOrders(ahead, n, new ArrayList<>(), 0);
        return what == 100 ? (int) orderCount : earliest[what];
    }

    private void tryOrders(int[] ahead, int n, List<Integer> row, int made) {
        if (row.size() == n) {
            orderCount++;
            for (int i = 0; i < n; i++) {
                int c = row.get(i);
                earliest[c] = earliest[c] < 0 ? i : Math.min(earliest[c], i);
            }
            return;
        }
        for (int c = 0; c < n; c++) {
            if ((made >> c & 1) == 0 && (ahead[c] & ~made) == 0) {
                row.add(c);
                tryOrders(ahead, n, row, made | 1 << c);
                row.remove(row.size() - 1);
            }
        }
    }

    boolean seed(int s) {
        if (s < 0 || s > 65535) {
            return false;
        }
        x = s;
        return true;
    }

    int keep() {
        keptCuts = new ArrayList<>();
        for (Cut c : cuts) {
            keptCuts.add(c.copy());
        }
        keptSeason = season;
        keptX = x;
        return season;
    }

    boolean undo() {
        if (keptCuts == null) {
            return false;
        }
        for (int c = 0; c < cuts.size() && c < keptCuts.size(); c++) {
            cuts.get(c).standAs(keptCuts.get(c));
        }
        season = keptSeason;
        x = keptX;
        return true;
    }

    int check(int n) {
        if (n < 0 || n > 16 || n > tape.size()) {
            return -2;
        }
        String text = take(n);
        for (int c = 0; c < n; c++) {
            if (text.charAt(c) != (isCut(c) ? cuts.get(c).memory : 255)) {
                return c;
            }
        }
        return -1;
    }

    int count(int what) {
        int calls = 0;
        for (Cut c : cuts) {
            calls += c.calls;
        }
        switch (what) {
            case 0: return season;
            case 1: return cuts.size();
            case 2: return bits(c -> c.state == 2);
            case 3: return bits(c -> c.state == 3);
            case 4: return calls;
            case 5: return law.size();
            case 6: return tape.size();
            case 7: return (int) x;
            default: return -1;
        }
    }
}
