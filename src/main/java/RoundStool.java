import java.util.Arrays;

/** Strands braided over the edge of a round stool, as told by songs; the document is ../shared/DOC.md. */
public final class RoundStool {

    public static final int NONE = -1;

    private static final int LEAST_SLOTS = 4;
    private static final int MOST_SLOTS = 16;
    private static final int SLOTS_AT_FIRST = 8;
    private static final int MOST_SLOTS_FOR_FEWEST = 7;
    private static final int COLOURS = 10;
    private static final int MOST_SLIP = 1000;
    private static final int SONGS = 4;
    private static final int MOST_MOVES = 200;
    private static final int MOST_TURN = 15;
    private static final int MOST_REPEATS = 9;
    private static final int MOST_OPEN = 4;
    private static final int MOST_DIGITS = 4;
    private static final int MOST_ROWS = 300;
    private static final int NAME_ROWS = 30;
    private static final int MOST_BYTES = 400;
    private static final int BYTES_FED = 20;
    private static final int MOST_UNDONE = 6;
    private static final int MOST_SINGINGS = 50;
    private static final int MOST_SINGINGS_BACK = 5040;
    private static final int MOST_SINGINGS_WHERE = 99;
    private static final int MOST_SINGINGS_CUT = 30;
    private static final int MOST_SINGINGS_LAID = 60;
    private static final int MOST_MONKS = 9;

    private static final int LOOK_SONG = 10;
    private static final int LOOK_WANT = 20;
    private static final int LOOK_NAME = 40;

    private final Reader reader = new Reader();
    private final Stool now = new Stool();
    private final History history = new History();
    private final Lifts lifts = new Lifts();
    private final Beats beatRows = new Beats();
    private final Cord oneCord = new Cord();
    private final Cord otherCord = new Cord();
    /** Made at the first taking only: most runs never ask for an image. */
    private Stool imageTaken = null;

    public RoundStool() {
    }

    public int state(int v) {
        int was = now.cord.state;
        now.cord.state = v;
        history.forget();
        return was;
    }

    public boolean stool(int n) {
        if (n < LEAST_SLOTS || n > MOST_SLOTS) {
            return false;
        }
        now.startAnew(n);
        history.forget();
        return true;
    }

    public boolean colour(int strand, int c) {
        if (!isSlot(strand) || !isColour(c)) {
            return false;
        }
        now.dye = Ring.with(now.dye, strand, c);
        history.forget();
        return true;
    }

    public boolean slip(int v) {
        if (v < 0 || v > MOST_SLIP) {
            return false;
        }
        now.slip = v;
        history.forget();
        return true;
    }

    public int feed(int a, int b, int c, int d, int e) {
        Tape tape = reader.tape;
        if (tape.length > MOST_BYTES - BYTES_FED) {
            return NONE;
        }
        tape.add(a);
        tape.add(b);
        tape.add(c);
        tape.add(d);
        tape.add(e);
        return tape.length;
    }

    public boolean end(int n) {
        if (n < 0 || n > reader.tape.length) {
            return false;
        }
        reader.tape.length = n;
        return true;
    }

    public int text(int k) {
        reader.forgetFault();
        int moves = NONE;
        if (isSong(k) && reader.read(now.slots)) {
            now.songs[k].copy(reader.draft);
            moves = now.songs[k].size;
        }
        reader.tape.length = 0;
        return moves;
    }

    public int fault(int what) {
        if (what == 0) {
            return reader.fault;
        }
        return what == 1 ? reader.place : NONE;
    }

    public int sing(int song, int n) {
        if (!isSong(song) || n < 1 || n > MOST_SINGINGS) {
            return NONE;
        }
        int made = 0;
        for (int i = 0; i < n; i++) {
            history.remember(now.cord);
            made += now.singOnce(now.songs[song]);
        }
        return made;
    }

    public int at(int slot, int what) {
        if (!isSlot(slot) || what < 0 || what > 1) {
            return NONE;
        }
        int strand = Ring.get(now.cord.ring, slot);
        return what == 0 ? strand : Ring.get(now.dye, strand);
    }

    public int of(int strand, int what) {
        if (!isSlot(strand)) {
            return NONE;
        }
        switch (what) {
            case 0:
                return Ring.slotWith(now.cord.ring, strand, now.slots);
            case 1:
                return Ring.get(now.dye, strand);
            case 2:
                return now.cord.moved[strand];
            default:
                return NONE;
        }
    }

    public int over(int a, int b) {
        if (!isSlot(a) || !isSlot(b) || a == b) {
            return NONE;
        }
        return now.cord.timesOver(a, b);
    }

    public int outside(int i, int what) {
        if (i < 0 || i >= now.cord.rows || what < 0 || what > 1) {
            return NONE;
        }
        return now.rowPart(i, what);
    }

    public int back(int song, int what) {
        if (!isSong(song) || what < 0 || what > 1) {
            return NONE;
        }
        if (what == 0) {
            return now.songs[song].singingsBack(now.cord.ring, now.dye, now.slots);
        }
        return now.songs[song].singingsBack(now.seen(now.cord.ring), Ring.HOME, now.slots);
    }

    public int where(int song, int strand, int n, boolean mirror) {
        if (!isSong(song) || !isSlot(strand) || n < 0 || n > MOST_SINGINGS_WHERE) {
            return NONE;
        }
        Song sung = now.songs[song];
        long ring = now.cord.ring;
        for (int i = 0; i < n; i++) {
            ring = mirror
                ? sung.mirroredFrom(ring, now.dye, now.slots)
                : sung.sungFrom(ring, now.dye, now.slots, NONE);
        }
        return Ring.slotWith(ring, strand, now.slots);
    }

    public boolean want(int slot, int c) {
        if (!isSlot(slot) || !isColour(c)) {
            return false;
        }
        now.wanted = Ring.with(now.wanted, slot, c);
        return true;
    }

    public int fewest(int what) {
        if (what < 0 || what > 2 || now.slots > MOST_SLOTS_FOR_FEWEST) {
            return NONE;
        }
        long from = now.seen(now.cord.ring);
        int count = lifts.needed(from, now.wanted, now.slots);
        if (what == 0 || count < 1) {
            return what == 0 ? count : NONE;
        }
        int first = lifts.firstOf(count, from, now.wanted, now.slots);
        return what == 1 ? Move.from(first) : Move.to(first);
    }

    public int cut(int what) {
        if (what < 0 || what > 2) {
            return NONE;
        }
        int count = 0;
        int firstSong = NONE;
        int firstTimes = NONE;
        for (int k = 0; k < SONGS; k++) {
            long seen = now.dye;
            for (int times = 0; times <= MOST_SINGINGS_CUT; times++) {
                if (seen == now.wanted) {
                    firstSong = count == 0 ? k : firstSong;
                    firstTimes = count == 0 ? times : firstTimes;
                    count++;
                }
                seen = now.songs[k].sungFrom(seen, Ring.HOME, now.slots, NONE);
            }
        }
        return oneOfThree(what, count, firstSong, firstTimes);
    }

    public int dropped(int song, int n, int what) {
        if (!isSong(song) || n < 1 || n > MOST_SINGINGS_CUT || what < 0 || what > 2) {
            return NONE;
        }
        int count = 0;
        int first = NONE;
        int firstTime = NONE;
        long ring = Ring.home(now.slots);
        for (int t = 1; t <= n; t++) {
            for (int strand = 0; strand < now.slots; strand++) {
                if (fitsWithout(strand, ring, now.songs[song], n - t + 1)) {
                    boolean isFirst = count == 0 || strand < first;
                    first = isFirst ? strand : first;
                    firstTime = isFirst ? t : firstTime;
                    count++;
                }
            }
            ring = now.songs[song].sungFrom(ring, now.dye, now.slots, NONE);
        }
        if (now.seen(ring) == now.wanted) {
            return oneOfThree(what, count + 1, NONE, n + 1);
        }
        return oneOfThree(what, count, first, firstTime);
    }

    public int beats(int song, int monks) {
        if (!isSong(song) || monks < 1 || monks > MOST_MONKS) {
            return NONE;
        }
        return beatRows.needed(now.songs[song], monks);
    }

    public boolean name(int i, int c) {
        if (i < 0 || i >= NAME_ROWS || (c != NONE && !isColour(c))) {
            return false;
        }
        now.nameRows[i] = c;
        return true;
    }

    public int lay(int song) {
        if (!isSong(song)) {
            return NONE;
        }
        return now.strandsToDye(now.songs[song]);
    }

    public int pulled(int i) {
        if (i < NONE) {
            return NONE;
        }
        int there = (1 << now.slots) - 1;
        int out = 0;
        for (int turn = 0; turn < now.slots; turn++) {
            int free = now.cord.leastFree(there, now.slots);
            if (free == NONE) {
                break;
            }
            if (out == i) {
                return free;
            }
            there &= ~(1 << free);
            out++;
        }
        return i == NONE ? out : NONE;
    }

    public int loops(int strand) {
        if (strand == NONE) {
            return countRings();
        }
        return isSlot(strand) ? Integer.bitCount(ringOf(strand)) : NONE;
    }

    public int alike(int a, int b) {
        if (!isSong(a) || !isSong(b)) {
            return NONE;
        }
        oneCord.startAnew(now.slots);
        oneCord.singInThought(now.songs[a], now.dye, now.slots);
        otherCord.startAnew(now.slots);
        otherCord.singInThought(now.songs[b], now.dye, now.slots);
        if (oneCord.ring != otherCord.ring) {
            return 0;
        }
        return oneCord.isOverLike(otherCord) ? 2 : 1;
    }

    public int period(int what) {
        if (what < 0 || what > 1) {
            return NONE;
        }
        for (int p = 1; p < now.cord.rows; p++) {
            if (now.rowsComeAgain(p, what)) {
                return p;
            }
        }
        return now.cord.rows;
    }

    public boolean undo() {
        return history.goBack(now.cord);
    }

    public boolean image(boolean taken) {
        if (taken) {
            if (imageTaken == null) {
                imageTaken = new Stool();
            }
            imageTaken.copy(now);
            return true;
        }
        if (imageTaken == null) {
            return false;
        }
        now.copy(imageTaken);
        history.forget();
        return true;
    }

    public int look(int what) {
        if (what >= LOOK_SONG && what < LOOK_SONG + SONGS) {
            return now.songs[what - LOOK_SONG].size;
        }
        if (what >= LOOK_WANT && what < LOOK_WANT + now.slots) {
            return Ring.get(now.wanted, what - LOOK_WANT);
        }
        if (what >= LOOK_NAME && what < LOOK_NAME + NAME_ROWS) {
            return now.nameRows[what - LOOK_NAME];
        }
        switch (what) {
            case 0:
                return now.slots;
            case 1:
                return now.slip;
            case 2:
                return now.cord.rows;
            case 3:
                return now.cord.sung;
            case 4:
                return now.cord.state;
            case 5:
                return history.count;
            default:
                return NONE;
        }
    }

    /** There are as many strands as slots, so this tells of a strand as well. */
    private boolean isSlot(int slot) {
        return slot >= 0 && slot < now.slots;
    }

    private static boolean isColour(int c) {
        return c >= 0 && c < COLOURS;
    }

    private static boolean isSong(int k) {
        return k >= 0 && k < SONGS;
    }

    private static int oneOfThree(int what, int zeroth, int first, int second) {
        if (what == 0) {
            return zeroth;
        }
        return what == 1 ? first : second;
    }

    private boolean fitsWithout(int strand, long start, Song song, int singings) {
        long ring = start;
        for (int i = 0; i < singings; i++) {
            ring = song.sungFrom(ring, now.dye, now.slots, strand);
        }
        return now.seen(ring) == now.wanted;
    }

    /** The strands of a ring, a bit each: where one ends, that with the slot's number begins. */
    private int ringOf(int strand) {
        int strands = 0;
        int next = strand;
        for (int i = 0; i < now.slots; i++) {
            strands |= 1 << next;
            next = Ring.slotWith(now.cord.ring, next, now.slots);
        }
        return strands;
    }

    private int countRings() {
        int rings = 0;
        int seen = 0;
        for (int strand = 0; strand < now.slots; strand++) {
            if ((seen & (1 << strand)) == 0) {
                seen |= ringOf(strand);
                rings++;
            }
        }
        return rings;
    }

    /**
     * Sixteen small numbers in one long, four bits each, the lowest first: the strand at each slot,
     * the colour at each slot, or the colour of each strand. So a whole ring is copied, compared
     * and moved without rows of its own, however often a thought sings.
     */
    private static final class Ring {

        /** Each number at its own place; taken for colours of strands it leaves a ring of colours as it is. */
        static final long HOME = 0xFEDCBA9876543210L;

        private Ring() {
        }

        static long home(int slots) {
            return HOME & lowest(slots);
        }

        static int get(long ring, int place) {
            return (int) (ring >>> (4 * place)) & 15;
        }

        static long with(long ring, int place, int number) {
            long cleared = ring & ~(15L << (4 * place));
            return cleared | ((long) number << (4 * place));
        }

        static int slotWith(long ring, int number, int slots) {
            for (int slot = 0; slot < slots; slot++) {
                if (get(ring, slot) == number) {
                    return slot;
                }
            }
            return NONE;
        }

        /** Taking one out and putting it in again moves just those between towards where it was. */
        static long lifted(long ring, int a, int b) {
            long under = ring & lowest(a);
            long above = (ring >>> (4 * a)) >>> 4;
            long without = under | (above << (4 * a));
            long before = without & lowest(b);
            long behind = (without >>> (4 * b)) << (4 * b) << 4;
            return before | behind | ((long) get(ring, a) << (4 * b));
        }

        static long swapped(long ring, int a, int b) {
            return with(with(ring, a, get(ring, b)), b, get(ring, a));
        }

        static long turned(long ring, int k, int slots) {
            int by = slots > 0 ? k % slots : 0;
            if (by == 0) {
                return ring;
            }
            return ((ring << (4 * by)) | (ring >>> (4 * (slots - by)))) & lowest(slots);
        }

        /** A shift by 64 would be none at all, so all sixteen are told apart. */
        private static long lowest(int places) {
            return places >= MOST_SLOTS ? -1L : (1L << (4 * places)) - 1;
        }
    }

    /** A move in one int: its kind, two slots (a turn has its number as the first), the colour asked. */
    private static final class Move {

        static final int LIFT = 0;
        static final int SWAP = 1;
        static final int TURN = 2;

        private static final int UNASKED = (1 << 10) - 1;

        private Move() {
        }

        static int packed(int kind, int a, int b, int asked) {
            return kind | (a << 2) | (b << 6) | ((asked + 1) << 10);
        }

        static int kind(int move) {
            return move & 3;
        }

        static int from(int move) {
            return (move >>> 2) & 15;
        }

        static int to(int move) {
            return (move >>> 6) & 15;
        }

        static int asked(int move) {
            return (move >>> 10) - 1;
        }

        static int withoutAsking(int move) {
            return move & UNASKED;
        }

        static int mirrored(int move, int slots) {
            int a = from(move);
            if (kind(move) == TURN) {
                int by = slots > 0 ? (slots - a % slots) % slots : 0;
                return packed(TURN, by, 0, NONE);
            }
            return packed(kind(move), slots - 1 - a, slots - 1 - to(move), asked(move));
        }

        static boolean isTurn(int move) {
            return kind(move) == TURN;
        }

        static boolean findsColour(int move, long ring, long dye) {
            int colour = asked(move);
            return colour == NONE || Ring.get(dye, Ring.get(ring, from(move))) == colour;
        }

        static long madeOn(long ring, int move, long dye, int slots) {
            int a = from(move);
            if (isTurn(move)) {
                return Ring.turned(ring, a, slots);
            }
            if (!findsColour(move, ring, dye)) {
                return ring;
            }
            int b = to(move);
            return kind(move) == LIFT ? Ring.lifted(ring, a, b) : Ring.swapped(ring, a, b);
        }

        static boolean cross(int one, int other) {
            int a = from(one);
            int b = to(one);
            int c = from(other);
            int d = to(other);
            if (a == c || a == d || b == c || b == d) {
                return true;
            }
            return isBetween(a, c, d) != isBetween(b, c, d) || isBetween(c, a, b) != isBetween(d, a, b);
        }

        private static boolean isBetween(int slot, int a, int b) {
            return slot > Math.min(a, b) && slot < Math.max(a, b);
        }
    }

    /** The moves of one singing, repetitions written out. */
    private static final class Song {

        int size = 0;
        final int[] moves = new int[MOST_MOVES];

        void copy(Song other) {
            size = other.size;
            System.arraycopy(other.moves, 0, moves, 0, other.size);
        }

        boolean add(int move) {
            if (size >= MOST_MOVES) {
                return false;
            }
            moves[size] = move;
            size++;
            return true;
        }

        /** The ring behind one singing in which the strand dropped (or NONE) is never lifted. */
        long sungFrom(long start, long dye, int slots, int dropped) {
            long ring = start;
            for (int i = 0; i < size; i++) {
                int move = moves[i];
                if (Move.isTurn(move) || Ring.get(ring, Move.from(move)) != dropped) {
                    ring = Move.madeOn(ring, move, dye, slots);
                }
            }
            return ring;
        }

        long mirroredFrom(long start, long dye, int slots) {
            long ring = start;
            for (int i = 0; i < size; i++) {
                ring = Move.madeOn(ring, Move.mirrored(moves[i], slots), dye, slots);
            }
            return ring;
        }

        int singingsBack(long first, long dye, int slots) {
            long ring = first;
            long mark = first;
            for (int n = 1; n <= MOST_SINGINGS_BACK; n++) {
                ring = sungFrom(ring, dye, slots, NONE);
                if (ring == first) {
                    return n;
                }
                // Songs that ask colours may fall into a round that the first ring is no part of.
                if (ring == mark) {
                    return NONE;
                }
                if (Integer.bitCount(n) == 1) {
                    mark = ring;
                }
            }
            return NONE;
        }
    }

    /** What singing changes, and so what is undone. */
    private static final class Cord {

        long ring = Ring.home(SLOTS_AT_FIRST);
        int state = 0;
        int sung = 0;
        int rows = 0;
        final int[] moved = new int[MOST_SLOTS];
        private final int[] overs = new int[MOST_SLOTS * MOST_SLOTS];

        /** The state of draws stays. */
        void startAnew(int slots) {
            ring = Ring.home(slots);
            sung = 0;
            rows = 0;
            Arrays.fill(moved, 0);
            Arrays.fill(overs, 0);
        }

        void copy(Cord other) {
            ring = other.ring;
            state = other.state;
            sung = other.sung;
            rows = other.rows;
            System.arraycopy(other.moved, 0, moved, 0, MOST_SLOTS);
            System.arraycopy(other.overs, 0, overs, 0, MOST_SLOTS * MOST_SLOTS);
        }

        int timesOver(int a, int b) {
            return overs[a * MOST_SLOTS + b];
        }

        boolean isOverLike(Cord other) {
            for (int i = 0; i < MOST_SLOTS * MOST_SLOTS; i++) {
                if (overs[i] != other.overs[i]) {
                    return false;
                }
            }
            return true;
        }

        int draw(int m) {
            state = 1664525 * state + 1013904223;
            return m > 0 ? (state >>> 8) % m : 0;
        }

        void singInThought(Song song, long dye, int slots) {
            for (int i = 0; i < song.size; i++) {
                make(song.moves[i], dye, slots);
            }
        }

        /** Tells whether a lift or swap was made. */
        boolean make(int move, long dye, int slots) {
            boolean lifts = !Move.isTurn(move) && Move.findsColour(move, ring, dye);
            if (lifts) {
                countOver(move);
                moved[Ring.get(ring, Move.from(move))]++;
                sung++;
            }
            ring = Move.madeOn(ring, move, dye, slots);
            return lifts;
        }

        /** A swap goes over the one at b alone, a lift over all from a to b. */
        private void countOver(int move) {
            int a = Move.from(move);
            int b = Move.to(move);
            int upper = Ring.get(ring, a) * MOST_SLOTS;
            boolean overAll = Move.kind(move) == Move.LIFT;
            for (int slot = Math.min(a, b); slot <= Math.max(a, b); slot++) {
                if (slot != a && (overAll || slot == b)) {
                    overs[upper + Ring.get(ring, slot)]++;
                }
            }
        }

        /** The least of the strands there (a bit each) that none of them is over, or NONE. */
        int leastFree(int there, int slots) {
            for (int strand = 0; strand < slots; strand++) {
                if ((there & (1 << strand)) != 0 && !isCovered(strand, there, slots)) {
                    return strand;
                }
            }
            return NONE;
        }

        private boolean isCovered(int strand, int there, int slots) {
            for (int upper = 0; upper < slots; upper++) {
                if ((there & (1 << upper)) != 0 && timesOver(upper, strand) > 0) {
                    return true;
                }
            }
            return false;
        }
    }

    /** All that an image keeps. */
    private static final class Stool {

        int slots = SLOTS_AT_FIRST;
        int slip = 0;
        long dye = 0;
        long wanted = 0;
        final int[] nameRows = new int[NAME_ROWS];
        final Song[] songs = new Song[SONGS];
        final Cord cord = new Cord();
        /** A row's strand in its lowest four bits, its colour above. */
        private final int[] outsideRows = new int[MOST_ROWS];
        private final int[] laidRows = new int[NAME_ROWS];

        Stool() {
            Arrays.fill(nameRows, NONE);
            for (int k = 0; k < SONGS; k++) {
                songs[k] = new Song();
            }
        }

        void startAnew(int n) {
            slots = n;
            slip = 0;
            dye = 0;
            wanted = 0;
            Arrays.fill(nameRows, NONE);
            for (int k = 0; k < SONGS; k++) {
                songs[k].size = 0;
            }
            cord.startAnew(n);
        }

        void copy(Stool other) {
            slots = other.slots;
            slip = other.slip;
            dye = other.dye;
            wanted = other.wanted;
            System.arraycopy(other.nameRows, 0, nameRows, 0, NAME_ROWS);
            for (int k = 0; k < SONGS; k++) {
                songs[k].copy(other.songs[k]);
            }
            cord.copy(other.cord);
            System.arraycopy(other.outsideRows, 0, outsideRows, 0, MOST_ROWS);
        }

        /** The colour at each slot. */
        long seen(long ring) {
            long colours = 0;
            for (int slot = 0; slot < slots; slot++) {
                colours = Ring.with(colours, slot, Ring.get(dye, Ring.get(ring, slot)));
            }
            return colours;
        }

        int singOnce(Song song) {
            int made = 0;
            for (int i = 0; i < song.size; i++) {
                int move = song.moves[i];
                int strand = Ring.get(cord.ring, Move.from(move));
                // The draw comes ahead of asking the colour: it is made whatever lies there.
                boolean slips = !Move.isTurn(move) && slip > 0 && cord.draw(MOST_SLIP) < slip;
                if (!slips && cord.make(move, dye, slots)) {
                    addRow(strand);
                    made++;
                }
            }
            return made;
        }

        private void addRow(int strand) {
            if (cord.rows < MOST_ROWS) {
                outsideRows[cord.rows] = strand | (Ring.get(dye, strand) << 4);
                cord.rows++;
            }
        }

        int rowPart(int i, int what) {
            return what == 0 ? outsideRows[i] & 15 : outsideRows[i] >> 4;
        }

        boolean rowsComeAgain(int p, int what) {
            for (int i = 0; i + p < cord.rows; i++) {
                if (rowPart(i, what) != rowPart(i + p, what)) {
                    return false;
                }
            }
            return true;
        }

        int strandsToDye(Song song) {
            int rows = layRows(song);
            long needed = dye;
            int told = 0;
            for (int i = 0; i < NAME_ROWS; i++) {
                int colour = nameRows[i];
                if (colour == NONE) {
                    continue;
                }
                if (i >= rows) {
                    return NONE;
                }
                int strand = laidRows[i];
                boolean isTold = (told & (1 << strand)) != 0;
                if (isTold && Ring.get(needed, strand) != colour) {
                    return NONE;
                }
                needed = Ring.with(needed, strand, colour);
                told |= 1 << strand;
            }
            return countUnlike(needed);
        }

        /** Writes which strand each row would show, as far as a name may go, and tells how many rows. */
        private int layRows(Song song) {
            int rows = 0;
            long ring = Ring.home(slots);
            for (int n = 0; n < MOST_SINGINGS_LAID && rows < NAME_ROWS; n++) {
                for (int i = 0; i < song.size && rows < NAME_ROWS; i++) {
                    int move = Move.withoutAsking(song.moves[i]);
                    if (!Move.isTurn(move)) {
                        laidRows[rows] = Ring.get(ring, Move.from(move));
                        rows++;
                    }
                    ring = Move.madeOn(ring, move, dye, slots);
                }
            }
            return rows;
        }

        private int countUnlike(long needed) {
            int unlike = 0;
            for (int strand = 0; strand < slots; strand++) {
                if (Ring.get(needed, strand) != Ring.get(dye, strand)) {
                    unlike++;
                }
            }
            return unlike;
        }
    }

    /** The latest singings as cords ahead of them, in places used again in turn. */
    private static final class History {

        int count = 0;
        private int next = 0;
        private final Cord[] cords = new Cord[MOST_UNDONE];

        History() {
            for (int i = 0; i < MOST_UNDONE; i++) {
                cords[i] = new Cord();
            }
        }

        void remember(Cord cord) {
            cords[next].copy(cord);
            next = (next + 1) % MOST_UNDONE;
            count = Math.min(count + 1, MOST_UNDONE);
        }

        boolean goBack(Cord cord) {
            if (count == 0) {
                return false;
            }
            next = (next + MOST_UNDONE - 1) % MOST_UNDONE;
            cord.copy(cords[next]);
            count--;
            return true;
        }

        void forget() {
            count = 0;
        }
    }

    /**
     * The fewest lifts from one ring of colours to another one. Those that are never lifted keep
     * their order, and each other one needs one lift: so all but the longest row common to both.
     */
    private static final class Lifts {

        private static final int WIDTH = MOST_SLOTS_FOR_FEWEST + 1;

        private final int[] common = new int[WIDTH * WIDTH];

        int needed(long from, long to, int slots) {
            if (slots > MOST_SLOTS_FOR_FEWEST || !isSameColours(from, to, slots)) {
                return NONE;
            }
            return slots - longestCommon(from, to, slots);
        }

        /** The first lift (as a move) behind which one lift less than count is needed. */
        int firstOf(int count, long from, long to, int slots) {
            for (int a = 0; a < slots; a++) {
                for (int b = 0; b < slots; b++) {
                    if (needed(Ring.lifted(from, a, b), to, slots) == count - 1) {
                        return Move.packed(Move.LIFT, a, b, NONE);
                    }
                }
            }
            return 0;
        }

        private static boolean isSameColours(long from, long to, int slots) {
            for (int colour = 0; colour < COLOURS; colour++) {
                if (countOf(colour, from, slots) != countOf(colour, to, slots)) {
                    return false;
                }
            }
            return true;
        }

        private static int countOf(int colour, long ring, int slots) {
            int count = 0;
            for (int slot = 0; slot < slots; slot++) {
                if (Ring.get(ring, slot) == colour) {
                    count++;
                }
            }
            return count;
        }

        /** The first line and column of the rows stay 0: nothing is common with nothing. */
        private int longestCommon(long one, long other, int slots) {
            for (int i = 1; i <= slots; i++) {
                for (int j = 1; j <= slots; j++) {
                    int here = i * WIDTH + j;
                    common[here] = Ring.get(one, i - 1) == Ring.get(other, j - 1)
                        ? common[here - WIDTH - 1] + 1
                        : Math.max(common[here - WIDTH], common[here - 1]);
                }
            }
            return common[slots * WIDTH + slots];
        }
    }

    /** Lifts and swaps laid into beats, one after the other. */
    private static final class Beats {

        private final int[] beatOfMove = new int[MOST_MOVES];
        private final int[] moving = new int[MOST_MOVES + 2];

        int needed(Song song, int monks) {
            Arrays.fill(moving, 0);
            int last = 0;
            for (int i = 0; i < song.size; i++) {
                if (!Move.isTurn(song.moves[i])) {
                    int beat = earliest(song, i, monks);
                    beatOfMove[i] = beat;
                    moving[beat]++;
                    last = Math.max(last, beat);
                }
            }
            return last;
        }

        private int earliest(Song song, int i, int monks) {
            int beat = 1;
            for (int j = 0; j < i; j++) {
                boolean crosses = !Move.isTurn(song.moves[j]) && Move.cross(song.moves[i], song.moves[j]);
                if (crosses) {
                    beat = Math.max(beat, beatOfMove[j] + 1);
                }
            }
            while (beat < MOST_MOVES && moving[beat] >= monks) {
                beat++;
            }
            return beat;
        }
    }

    /** The bytes fed that are no song yet, and the tokens that they are, the end being the last of these. */
    private static final class Tape {

        static final int THE_END = 0;
        static final int NO_TOKEN = 1;
        static final int NUMBER = 2;
        static final int SEMICOLON = 3;
        static final int OPENING = 4;
        static final int CLOSING = 5;
        static final int LIFT = 6;
        static final int TO = 7;
        static final int IF = 8;
        static final int SWAP = 9;
        static final int TURN = 10;
        static final int TIMES = 11;

        int length = 0;
        int tokens = 0;
        final int[] kinds = new int[MOST_BYTES + 1];
        final int[] places = new int[MOST_BYTES + 1];
        final int[] numbers = new int[MOST_BYTES + 1];
        private final byte[] bytes = new byte[MOST_BYTES];

        void add(int number) {
            for (int shift = 24; shift >= 0 && length < MOST_BYTES; shift -= 8) {
                bytes[length] = (byte) (number >>> shift);
                length++;
            }
        }

        /** All ahead of reading: so what reads a step never waits for signs. */
        void findTokens() {
            tokens = 0;
            int next = 0;
            for (int from = 0; from < length; from++) {
                // Signs ahead of next are part of a run that is a token already.
                if (from == next) {
                    next = endOfRun(from);
                    if (!isBlank(bytes[from])) {
                        addToken(kindOfRun(from, next), from, numberOfRun(from, next));
                    }
                }
            }
            addToken(THE_END, length, 0);
        }

        private void addToken(int kind, int place, int number) {
            if (tokens <= MOST_BYTES) {
                kinds[tokens] = kind;
                places[tokens] = place;
                numbers[tokens] = number;
                tokens++;
            }
        }

        /** Letters stand together, and digits; each other sign is by itself. */
        private int endOfRun(int from) {
            int to = from + 1;
            if (isLetter(bytes[from])) {
                while (to < length && isLetter(bytes[to])) {
                    to++;
                }
            } else if (isDigit(bytes[from])) {
                while (to < length && isDigit(bytes[to])) {
                    to++;
                }
            }
            return to;
        }

        private int kindOfRun(int from, int to) {
            if (isLetter(bytes[from])) {
                return kindOfWord(from, to);
            }
            if (isDigit(bytes[from])) {
                return to - from <= MOST_DIGITS ? NUMBER : NO_TOKEN;
            }
            switch (bytes[from]) {
                case ';':
                    return SEMICOLON;
                case '(':
                    return OPENING;
                case ')':
                    return CLOSING;
                default:
                    return NO_TOKEN;
            }
        }

        private int kindOfWord(int from, int to) {
            if (isWord("lift", from, to)) {
                return LIFT;
            }
            if (isWord("to", from, to)) {
                return TO;
            }
            if (isWord("if", from, to)) {
                return IF;
            }
            if (isWord("swap", from, to)) {
                return SWAP;
            }
            if (isWord("turn", from, to)) {
                return TURN;
            }
            return isWord("times", from, to) ? TIMES : NO_TOKEN;
        }

        private boolean isWord(String word, int from, int to) {
            if (to - from != word.length()) {
                return false;
            }
            for (int i = 0; i < word.length(); i++) {
                if (bytes[from + i] != word.charAt(i)) {
                    return false;
                }
            }
            return true;
        }

        /** Of a run that is no number, or too long for one, nobody asks it. */
        private int numberOfRun(int from, int to) {
            int number = 0;
            for (int i = from; i < to && isDigit(bytes[i]) && i - from < MOST_DIGITS; i++) {
                number = number * 10 + bytes[i] - '0';
            }
            return number;
        }

        private static boolean isBlank(int sign) {
            return sign == ' ' || sign == '\n';
        }

        private static boolean isLetter(int sign) {
            return (sign >= 'a' && sign <= 'z') || (sign >= 'A' && sign <= 'Z');
        }

        private static boolean isDigit(int sign) {
            return sign >= '0' && sign <= '9';
        }
    }

    /** Reads a text into a draft, up to its first fault. */
    private static final class Reader {

        private static final int CANT_STAND = 1;
        private static final int BEYOND_BOUNDS = 2;
        private static final int TOO_DEEP = 3;
        private static final int TOO_MANY = 4;

        int fault = 0;
        int place = NONE;
        final Tape tape = new Tape();
        final Song draft = new Song();

        private int slots = SLOTS_AT_FIRST;
        /** The token that was taken last, and what it is. */
        private int taken = NONE;
        private int kind = Tape.THE_END;
        private int number = 0;
        private boolean tooMany = false;
        private int open = 0;
        private final int[] bodyStart = new int[MOST_OPEN];
        private final int[] repeats = new int[MOST_OPEN];

        void forgetFault() {
            fault = 0;
            place = NONE;
        }

        boolean read(int slotsThere) {
            tape.findTokens();
            slots = slotsThere;
            taken = NONE;
            draft.size = 0;
            tooMany = false;
            open = 0;
            boolean goesOn = true;
            // A step takes a token at least, so there are no more steps than tokens.
            for (int step = 0; step < tape.tokens && goesOn; step++) {
                take();
                if (kind == Tape.THE_END) {
                    return readEnd();
                }
                switch (kind) {
                    case Tape.LIFT:
                        goesOn = readLift();
                        break;
                    case Tape.SWAP:
                        goesOn = readSwap();
                        break;
                    case Tape.TURN:
                        goesOn = readTurn();
                        break;
                    case Tape.TIMES:
                        goesOn = readTimes();
                        break;
                    case Tape.CLOSING:
                        goesOn = readClosing();
                        break;
                    default:
                        goesOn = fail(CANT_STAND);
                        break;
                }
            }
            return false;
        }

        private boolean fail(int faultKind) {
            fault = faultKind;
            place = tape.places[taken];
            return false;
        }

        /** Behind the end nothing but the end is taken. */
        private void take() {
            if (taken < tape.tokens - 1) {
                taken++;
            }
            kind = tape.kinds[taken];
            number = tape.numbers[taken];
        }

        private boolean readToken(int due) {
            take();
            return kind == due || fail(CANT_STAND);
        }

        private boolean readNumber(int least, int most) {
            if (!readToken(Tape.NUMBER)) {
                return false;
            }
            return (number >= least && number <= most) || fail(BEYOND_BOUNDS);
        }

        private boolean readEnd() {
            if (open > 0) {
                return fail(CANT_STAND);
            }
            return !tooMany || fail(TOO_MANY);
        }

        private boolean readLift() {
            if (!readNumber(0, slots - 1)) {
                return false;
            }
            int a = number;
            if (!readToken(Tape.TO) || !readNumber(0, slots - 1)) {
                return false;
            }
            return readAsked(Move.LIFT, a, number);
        }

        private boolean readSwap() {
            if (!readNumber(0, slots - 1)) {
                return false;
            }
            int a = number;
            return readNumber(0, slots - 1) && readAsked(Move.SWAP, a, number);
        }

        private boolean readAsked(int moveKind, int a, int b) {
            int asked = NONE;
            take();
            if (kind == Tape.IF) {
                if (!readNumber(0, COLOURS - 1)) {
                    return false;
                }
                asked = number;
                take();
            }
            if (kind != Tape.SEMICOLON) {
                return fail(CANT_STAND);
            }
            append(Move.packed(moveKind, a, b, asked));
            return true;
        }

        private boolean readTurn() {
            if (!readNumber(0, MOST_TURN)) {
                return false;
            }
            int k = number;
            if (!readToken(Tape.SEMICOLON)) {
                return false;
            }
            append(Move.packed(Move.TURN, k, 0, NONE));
            return true;
        }

        private boolean readTimes() {
            if (open >= MOST_OPEN) {
                return fail(TOO_DEEP);
            }
            if (!readNumber(1, MOST_REPEATS)) {
                return false;
            }
            repeats[open] = number;
            bodyStart[open] = draft.size;
            open++;
            return readToken(Tape.OPENING);
        }

        private boolean readClosing() {
            if (open == 0) {
                return fail(CANT_STAND);
            }
            open--;
            int bodyEnd = draft.size;
            for (int r = 1; r < repeats[open]; r++) {
                for (int i = bodyStart[open]; i < bodyEnd; i++) {
                    append(draft.moves[i]);
                }
            }
            return true;
        }

        /** Too many moves are a fault of the end alone: whatever else is wrong ahead of it comes first. */
        private void append(int move) {
            if (!draft.add(move)) {
                tooMany = true;
            }
        }
    }
}
