import java.util.ArrayDeque;
import java.util.ArrayList;
import java.util.Arrays;
import java.util.HashMap;
import java.util.List;
import java.util.Map;

/** The document once more, as plainly and slowly as it can be written: what RoundStool is compared with. */
final class PlainStool {

    static final int NONE = -1;

    record Step(String kind, int a, int b, int asked, List<Step> body) { }

    static final class Told {
        int n = 8;
        int state;
        int slip;
        int[] at = new int[0];
        int[] colour = new int[0];
        int[] want = new int[0];
        int[] moved = new int[0];
        int[][] over = new int[0][];
        int[] name = new int[30];
        List<int[]> rows = new ArrayList<>();
        int sung;
        List<List<Step>> songs = new ArrayList<>();

        Told(int n, int state) {
            this.n = n;
            this.state = state;
            at = homeOf(n);
            colour = new int[n];
            want = new int[n];
            moved = new int[n];
            over = new int[n][n];
            Arrays.fill(name, NONE);
            for (int k = 0; k < 4; k++) {
                songs.add(new ArrayList<>());
            }
        }

        Told copied() {
            Told t = new Told(n, state);
            t.slip = slip;
            t.at = at.clone();
            t.colour = colour.clone();
            t.want = want.clone();
            t.moved = moved.clone();
            for (int i = 0; i < n; i++) {
                t.over[i] = over[i].clone();
            }
            t.name = name.clone();
            t.rows = new ArrayList<>(rows);
            t.sung = sung;
            t.songs = new ArrayList<>(songs);
            return t;
        }
    }

    private Told now = new Told(8, 0);
    private Told image = null;
    private final ArrayDeque<Told> before = new ArrayDeque<>();
    private final List<Integer> tape = new ArrayList<>();
    private int fault = 0;
    private int place = NONE;

    private static int[] homeOf(int n) {
        int[] at = new int[n];
        for (int i = 0; i < n; i++) {
            at[i] = i;
        }
        return at;
    }

    // ---- what is told

    int state(int v) {
        int was = now.state;
        now.state = v;
        before.clear();
        return was;
    }

    boolean stool(int n) {
        if (n < 4 || n > 16) {
            return false;
        }
        now = new Told(n, now.state);
        before.clear();
        return true;
    }

    boolean colour(int strand, int c) {
        if (strand < 0 || strand >= now.n || c < 0 || c > 9) {
            return false;
        }
        now.colour[strand] = c;
        before.clear();
        return true;
    }

    boolean slip(int v) {
        if (v < 0 || v > 1000) {
            return false;
        }
        now.slip = v;
        before.clear();
        return true;
    }

    int feed(int a, int b, int c, int d, int e) {
        if (tape.size() + 20 > 400) {
            return NONE;
        }
        for (int v : new int[] {a, b, c, d, e}) {
            for (int shift = 24; shift >= 0; shift -= 8) {
                tape.add((v >> shift) & 255);
            }
        }
        return tape.size();
    }

    boolean end(int n) {
        if (n < 0 || n > tape.size()) {
            return false;
        }
        tape.subList(n, tape.size()).clear();
        return true;
    }

    // ---- texts: all tokens first, then down the grammar

    private record Token(String word, int place) { }

    private static final class Fault extends RuntimeException {
        private static final long serialVersionUID = 1;
        final int kind;
        final int place;

        Fault(int kind, int place) {
            this.kind = kind;
            this.place = place;
        }
    }

    private List<Token> tokens = List.of();
    private int nextToken = 0;

    int text(int k) {
        StringBuilder text = new StringBuilder();
        for (int b : tape) {
            text.append((char) b);
        }
        tape.clear();
        fault = 0;
        place = NONE;
        if (k < 0 || k > 3) {
            return NONE;
        }
        try {
            tokens = tokensOf(text.toString());
            nextToken = 0;
            List<Step> steps = stepsUpTo("", 0);
            if (countOf(steps) > 200) {
                throw new Fault(4, text.length());
            }
            now.songs.set(k, steps);
            return (int) countOf(steps);
        } catch (Fault f) {
            fault = f.kind;
            place = f.place;
            return NONE;
        }
    }

    private static List<Token> tokensOf(String text) {
        List<Token> found = new ArrayList<>();
        int i = 0;
        while (i < text.length()) {
            int j = i + 1;
            String one = text.substring(i, j);
            if (one.equals(" ") || one.equals("\n")) {
                i++;
                continue;
            }
            for (String kind : new String[] {"[a-zA-Z]", "[0-9]"}) {
                while (one.matches(kind) && j < text.length() && text.substring(j, j + 1).matches(kind)) {
                    j++;
                }
            }
            found.add(new Token(text.substring(i, j), i));
            i = j;
        }
        found.add(new Token("", text.length()));
        return found;
    }

    private static long countOf(List<Step> steps) {
        long count = 0;
        for (Step s : steps) {
            count += s.kind.equals("times") ? s.a * countOf(s.body) : 1;
        }
        return count;
    }

    private void expect(String word) {
        Token t = tokens.get(nextToken);
        if (!t.word.equals(word)) {
            throw new Fault(1, t.place);
        }
        nextToken++;
    }

    private int number(int least, int most) {
        Token t = tokens.get(nextToken);
        if (!t.word.matches("[0-9]{1,4}")) {
            throw new Fault(1, t.place);
        }
        int v = Integer.parseInt(t.word);
        if (v < least || v > most) {
            throw new Fault(2, t.place);
        }
        nextToken++;
        return v;
    }

    private int askedColour() {
        if (!tokens.get(nextToken).word.equals("if")) {
            return NONE;
        }
        nextToken++;
        return number(0, 9);
    }

    private List<Step> stepsUpTo(String closing, int depth) {
        List<Step> steps = new ArrayList<>();
        while (!tokens.get(nextToken).word.equals(closing)) {
            Token t = tokens.get(nextToken);
            nextToken++;
            int a;
            int b;
            switch (t.word) {
                case "lift":
                    a = number(0, now.n - 1);
                    expect("to");
                    b = number(0, now.n - 1);
                    steps.add(new Step("lift", a, b, askedColour(), null));
                    expect(";");
                    break;
                case "swap":
                    a = number(0, now.n - 1);
                    b = number(0, now.n - 1);
                    steps.add(new Step("swap", a, b, askedColour(), null));
                    expect(";");
                    break;
                case "turn":
                    steps.add(new Step("turn", number(0, 15), 0, NONE, null));
                    expect(";");
                    break;
                case "times":
                    if (depth == 4) {
                        throw new Fault(3, t.place);
                    }
                    a = number(1, 9);
                    expect("(");
                    steps.add(new Step("times", a, 0, NONE, stepsUpTo(")", depth + 1)));
                    break;
                default:
                    throw new Fault(1, t.place);
            }
        }
        nextToken++;
        return steps;
    }

    int fault(int what) {
        return what == 0 ? fault : what == 1 ? place : NONE;
    }

    // ---- singing

    private static void flatten(List<Step> steps, List<Step> into) {
        for (Step s : steps) {
            if (s.kind.equals("times")) {
                for (int r = 0; r < s.a; r++) {
                    flatten(s.body, into);
                }
            } else {
                into.add(s);
            }
        }
    }

    private List<Step> movesOf(int song) {
        List<Step> moves = new ArrayList<>();
        flatten(now.songs.get(song), moves);
        return moves;
    }

    /** Where all are behind a move that is made. */
    private static int[] moved(int[] at, Step m) {
        int n = at.length;
        int[] to = at.clone();
        if (m.kind.equals("turn")) {
            for (int s = 0; s < n; s++) {
                to[(s + m.a) % n] = at[s];
            }
        } else if (m.kind.equals("swap")) {
            to[m.a] = at[m.b];
            to[m.b] = at[m.a];
        } else {
            for (int s = m.a + 1; s <= m.b; s++) {
                to[s - 1] = at[s];
            }
            for (int s = m.b; s < m.a; s++) {
                to[s + 1] = at[s];
            }
            to[m.b] = at[m.a];
        }
        return to;
    }

    private static List<Integer> under(int[] at, Step m) {
        List<Integer> list = new ArrayList<>();
        if (m.kind.equals("swap") && m.a != m.b) {
            list.add(at[m.b]);
        }
        if (m.kind.equals("lift")) {
            for (int s = 0; s < at.length; s++) {
                if (s != m.a && (s - m.a) * (s - m.b) <= 0) {
                    list.add(at[s]);
                }
            }
        }
        return list;
    }

    private boolean isMade(Step m, int[] at) {
        return m.asked == NONE || now.colour[at[m.a]] == m.asked;
    }

    private int draw(int m) {
        now.state = 1664525 * now.state + 1013904223;
        return (int) ((now.state & 0xFFFFFFFFL) >> 8) % m;
    }

    private static boolean valid(int song) {
        return song >= 0 && song <= 3;
    }

    int sing(int song, int n) {
        if (!valid(song) || n < 1 || n > 50) {
            return NONE;
        }
        int made = 0;
        for (int i = 0; i < n; i++) {
            before.addLast(now.copied());
            if (before.size() > 6) {
                before.removeFirst();
            }
            for (Step m : movesOf(song)) {
                if (m.kind.equals("turn")) {
                    now.at = moved(now.at, m);
                    continue;
                }
                boolean slips = now.slip > 0 && draw(1000) < now.slip;
                if (slips || !isMade(m, now.at)) {
                    continue;
                }
                int strand = now.at[m.a];
                for (int u : under(now.at, m)) {
                    now.over[strand][u]++;
                }
                now.at = moved(now.at, m);
                now.moved[strand]++;
                now.sung++;
                made++;
                if (now.rows.size() < 300) {
                    now.rows.add(new int[] {strand, now.colour[strand]});
                }
            }
        }
        return made;
    }

    private boolean there(int slot) {
        return slot >= 0 && slot < now.n;
    }

    int at(int slot, int what) {
        if (!there(slot)) {
            return NONE;
        }
        return what == 0 ? now.at[slot] : what == 1 ? now.colour[now.at[slot]] : NONE;
    }

    private static int slotOf(int[] at, int strand) {
        for (int s = 0; s < at.length; s++) {
            if (at[s] == strand) {
                return s;
            }
        }
        return NONE;
    }

    int of(int strand, int what) {
        if (!there(strand)) {
            return NONE;
        }
        return what == 0 ? slotOf(now.at, strand) : what == 1 ? now.colour[strand] : what == 2 ? now.moved[strand] : NONE;
    }

    int over(int a, int b) {
        return there(a) && there(b) && a != b ? now.over[a][b] : NONE;
    }

    int outside(int i, int what) {
        return i >= 0 && i < now.rows.size() && (what == 0 || what == 1) ? now.rows.get(i)[what] : NONE;
    }

    // ---- in thought

    private int[] sung(int[] at, List<Step> moves, int dropped) {
        int[] to = at;
        for (Step m : moves) {
            if (m.kind.equals("turn") || (isMade(m, to) && to[m.a] != dropped)) {
                to = moved(to, m);
            }
        }
        return to;
    }

    private int[] coloursOf(int[] at) {
        int[] c = new int[at.length];
        for (int s = 0; s < at.length; s++) {
            c[s] = now.colour[at[s]];
        }
        return c;
    }

    int back(int song, int what) {
        if (!valid(song) || what < 0 || what > 1) {
            return NONE;
        }
        List<Step> moves = movesOf(song);
        int[] at = now.at;
        for (int t = 1; t <= 5040; t++) {
            at = sung(at, moves, NONE);
            if (what == 0 ? Arrays.equals(at, now.at) : Arrays.equals(coloursOf(at), coloursOf(now.at))) {
                return t;
            }
        }
        return NONE;
    }

    int where(int song, int strand, int n, boolean mirror) {
        if (!valid(song) || !there(strand) || n < 0 || n > 99) {
            return NONE;
        }
        List<Step> moves = new ArrayList<>();
        for (Step m : movesOf(song)) {
            if (!mirror) {
                moves.add(m);
            } else if (m.kind.equals("turn")) {
                moves.add(new Step("turn", Math.floorMod(now.n - m.a, now.n), 0, NONE, null));
            } else {
                moves.add(new Step(m.kind, now.n - 1 - m.a, now.n - 1 - m.b, m.asked, null));
            }
        }
        int[] at = now.at;
        for (int t = 0; t < n; t++) {
            at = sung(at, moves, NONE);
        }
        return slotOf(at, strand);
    }

    boolean want(int slot, int c) {
        if (!there(slot) || c < 0 || c > 9) {
            return false;
        }
        now.want[slot] = c;
        return true;
    }

    /** How many lifts from every ring of colours to the wanted one: lifts can be taken back by lifts. */
    private Map<String, Integer> distances() {
        Map<String, Integer> far = new HashMap<>();
        ArrayDeque<int[]> queue = new ArrayDeque<>();
        far.put(Arrays.toString(now.want), 0);
        queue.add(now.want);
        while (!queue.isEmpty()) {
            int[] ring = queue.poll();
            int d = far.get(Arrays.toString(ring));
            for (int a = 0; a < now.n; a++) {
                for (int b = 0; b < now.n; b++) {
                    int[] to = moved(ring, new Step("lift", a, b, NONE, null));
                    if (far.putIfAbsent(Arrays.toString(to), d + 1) == null) {
                        queue.add(to);
                    }
                }
            }
        }
        return far;
    }

    int fewest(int what) {
        if (now.n > 7 || what < 0 || what > 2) {
            return NONE;
        }
        Map<String, Integer> far = distances();
        int[] from = coloursOf(now.at);
        int d = far.getOrDefault(Arrays.toString(from), NONE);
        if (what == 0 || d <= 0) {
            return what == 0 ? d : NONE;
        }
        for (int a = 0; a < now.n; a++) {
            for (int b = 0; b < now.n; b++) {
                if (far.get(Arrays.toString(moved(from, new Step("lift", a, b, NONE, null)))) == d - 1) {
                    return what == 1 ? a : b;
                }
            }
        }
        throw new IllegalStateException();
    }

    int cut(int what) {
        List<int[]> fits = new ArrayList<>();
        for (int k = 0; k < 4; k++) {
            List<Step> moves = movesOf(k);
            for (int times = 0; times <= 30; times++) {
                int[] at = homeOf(now.n);
                for (int i = 0; i < times; i++) {
                    at = sung(at, moves, NONE);
                }
                if (Arrays.equals(coloursOf(at), now.want)) {
                    fits.add(new int[] {k, times});
                }
            }
        }
        return countOrFirst(fits, what);
    }

    private static int countOrFirst(List<int[]> fits, int what) {
        if (what == 0) {
            return fits.size();
        }
        return (what == 1 || what == 2) && !fits.isEmpty() ? fits.get(0)[what - 1] : NONE;
    }

    int dropped(int song, int n, int what) {
        if (!valid(song) || n < 1 || n > 30) {
            return NONE;
        }
        List<Step> moves = movesOf(song);
        List<int[]> fits = new ArrayList<>();
        if (fitsDropped(moves, n, NONE, n + 1)) {
            fits.add(new int[] {NONE, n + 1});
        }
        for (int strand = 0; strand < now.n; strand++) {
            for (int t = 1; t <= n; t++) {
                if (fitsDropped(moves, n, strand, t)) {
                    fits.add(new int[] {strand, t});
                }
            }
        }
        return countOrFirst(fits, what);
    }

    private boolean fitsDropped(List<Step> moves, int n, int strand, int t) {
        return Arrays.equals(coloursDropped(moves, n, strand, t), now.want);
    }

    private int[] coloursDropped(List<Step> moves, int n, int strand, int t) {
        int[] at = homeOf(now.n);
        for (int i = 1; i <= n; i++) {
            at = sung(at, moves, i >= t ? strand : NONE);
        }
        return coloursOf(at);
    }

    /** For tests that want what can be: the colours behind n singings of a song, a strand dropped ahead of t. */
    int[] coloursAtEnd(int song, int n, int strand, int t) {
        return coloursDropped(movesOf(song), n, strand, t);
    }

    private static boolean cross(Step x, Step y) {
        if (x.a == y.a || x.a == y.b || x.b == y.a || x.b == y.b) {
            return true;
        }
        return inside(x, y) == 1 || inside(y, x) == 1;
    }

    /** How many of the two slots of x lie between those of y. */
    private static int inside(Step x, Step y) {
        int count = 0;
        for (int s : new int[] {x.a, x.b}) {
            if (s > Math.min(y.a, y.b) && s < Math.max(y.a, y.b)) {
                count++;
            }
        }
        return count;
    }

    int beats(int song, int monks) {
        if (!valid(song) || monks < 1 || monks > 9) {
            return NONE;
        }
        List<List<Step>> beats = new ArrayList<>();
        for (Step m : movesOf(song)) {
            if (m.kind.equals("turn")) {
                continue;
            }
            int beat = 0;
            for (int i = 0; i < beats.size(); i++) {
                for (Step other : beats.get(i)) {
                    beat = cross(m, other) ? i + 1 : beat;
                }
            }
            while (beat < beats.size() && beats.get(beat).size() >= monks) {
                beat++;
            }
            if (beat == beats.size()) {
                beats.add(new ArrayList<>());
            }
            beats.get(beat).add(m);
        }
        return beats.size();
    }

    boolean name(int i, int c) {
        if (i < 0 || i > 29 || c < NONE || c > 9) {
            return false;
        }
        now.name[i] = c;
        return true;
    }

    int lay(int song) {
        if (!valid(song)) {
            return NONE;
        }
        List<Integer> rows = new ArrayList<>();
        int[] at = homeOf(now.n);
        for (int t = 0; t < 60; t++) {
            for (Step m : movesOf(song)) {
                if (!m.kind.equals("turn")) {
                    rows.add(at[m.a]);
                }
                at = moved(at, m);
            }
        }
        Map<Integer, Integer> need = new HashMap<>();
        for (int i = 0; i < 30; i++) {
            if (now.name[i] == NONE) {
                continue;
            }
            if (i >= rows.size()) {
                return NONE;
            }
            Integer other = need.put(rows.get(i), now.name[i]);
            if (other != null && other != now.name[i]) {
                return NONE;
            }
        }
        int anew = 0;
        for (Map.Entry<Integer, Integer> e : need.entrySet()) {
            anew += now.colour[e.getKey()] == e.getValue() ? 0 : 1;
        }
        return anew;
    }

    int pulled(int i) {
        List<Integer> left = new ArrayList<>();
        for (int s = 0; s < now.n; s++) {
            left.add(s);
        }
        List<Integer> out = new ArrayList<>();
        boolean going = true;
        while (going) {
            going = false;
            for (int s : left) {
                boolean free = true;
                for (int o : left) {
                    free &= now.over[o][s] == 0;
                }
                if (free) {
                    out.add(s);
                    left.remove((Integer) s);
                    going = true;
                    break;
                }
            }
        }
        return i == NONE ? out.size() : i >= 0 && i < out.size() ? out.get(i) : NONE;
    }

    int loops(int strand) {
        if (strand < NONE || strand >= now.n) {
            return NONE;
        }
        int rings = 0;
        for (int s = 0; s < now.n; s++) {
            int size = 1;
            int least = s;
            for (int t = slotOf(now.at, s); t != s; t = slotOf(now.at, t)) {
                size++;
                least = Math.min(least, t);
            }
            if (s == strand) {
                return size;
            }
            rings += least == s ? 1 : 0;
        }
        return rings;
    }

    int alike(int a, int b) {
        if (!valid(a) || !valid(b)) {
            return NONE;
        }
        int[][] overA = new int[now.n][now.n];
        int[][] overB = new int[now.n][now.n];
        int[] atA = overOf(movesOf(a), overA);
        int[] atB = overOf(movesOf(b), overB);
        return !Arrays.equals(atA, atB) ? 0 : Arrays.deepEquals(overA, overB) ? 2 : 1;
    }

    private int[] overOf(List<Step> moves, int[][] over) {
        int[] at = homeOf(now.n);
        for (Step m : moves) {
            if (m.kind.equals("turn") || isMade(m, at)) {
                for (int u : under(at, m)) {
                    over[at[m.a]][u]++;
                }
                at = moved(at, m);
            }
        }
        return at;
    }

    int period(int what) {
        if (what < 0 || what > 1) {
            return NONE;
        }
        int size = now.rows.size();
        for (int p = 1; p <= size; p++) {
            boolean same = true;
            for (int i = 0; i + p < size; i++) {
                same &= now.rows.get(i)[what] == now.rows.get(i + p)[what];
            }
            if (same) {
                return p;
            }
        }
        return 0;
    }

    // ---- back again

    boolean undo() {
        if (before.isEmpty()) {
            return false;
        }
        Told was = before.removeLast();
        was.songs = now.songs;
        was.want = now.want;
        was.name = now.name;
        now = was;
        return true;
    }

    boolean image(boolean taken) {
        if (taken) {
            image = now.copied();
            return true;
        }
        if (image == null) {
            return false;
        }
        now = image.copied();
        before.clear();
        return true;
    }

    int look(int what) {
        switch (what) {
            case 0:
                return now.n;
            case 1:
                return now.slip;
            case 2:
                return now.rows.size();
            case 3:
                return now.sung;
            case 4:
                return now.state;
            case 5:
                return before.size();
            default:
                break;
        }
        if (what >= 10 && what <= 13) {
            return movesOf(what - 10).size();
        }
        if (what >= 20 && what < 20 + now.n) {
            return now.want[what - 20];
        }
        return what >= 40 && what <= 69 ? now.name[what - 40] : NONE;
    }
}
