import java.util.Random;

/** Runs of calls drawn from fixed seeds: RoundStool must answer each as PlainStool does. */
public final class ModelTest {

    private static final int RUNS = 600;
    private static final int CALLS = 512;

    private final Random random;
    private final RoundStool real = new RoundStool();
    private final PlainStool plain = new PlainStool();
    private final StringBuilder calls = new StringBuilder();
    private int count = 0;
    private boolean wrong = false;
    private int colours = 3;

    private ModelTest(long seed) {
        random = new Random(seed);
    }

    public static void main(String[] args) {
        int runs = args.length > 0 ? Integer.parseInt(args[0]) : RUNS;
        long first = args.length > 1 ? Long.parseLong(args[1]) : 0;
        int failed = 0;
        for (long seed = first; seed < first + runs && failed < 3; seed++) {
            ModelTest test = new ModelTest(seed);
            test.run();
            if (test.wrong) {
                failed++;
                System.out.println("run of seed " + seed + ":\n" + test.calls);
            }
        }
        System.out.println("ModelTest: " + runs + " runs, " + failed + " wrong");
        if (failed > 0) {
            System.exit(1);
        }
    }

    private void run() {
        colours = 1 + random.nextInt(4);
        if (random.nextInt(8) != 0) {
            int n = random.nextInt(3) == 0 ? 4 + random.nextInt(4) : 4 + random.nextInt(13);
            same("stool " + n, real.stool(n) ? 1 : 0, plain.stool(n) ? 1 : 0);
        }
        for (int s = 0; s < plain.look(0); s++) {
            int c = random.nextInt(colours);
            same("colour " + s + " " + c, real.colour(s, c) ? 1 : 0, plain.colour(s, c) ? 1 : 0);
        }
        for (int k = 0; k < 4; k++) {
            tellText(k, song(0, 1 + random.nextInt(4)));
        }
        while (count < CALLS && !wrong) {
            oneCall();
        }
    }

    private void same(String call, int got, int due) {
        count++;
        calls.append("  ").append(call).append(" = ").append(got);
        if (got != due) {
            wrong = true;
            calls.append(" BUT DUE IS ").append(due);
        }
        calls.append('\n');
    }

    private void same(String call, boolean got, boolean due) {
        same(call, got ? 1 : 0, due ? 1 : 0);
    }

    /** Mostly one within the bounds, now and then one at or beyond them. */
    private int near(int least, int most) {
        int die = random.nextInt(40);
        if (die == 0) {
            return least - 1;
        }
        if (die == 1) {
            return most + 1;
        }
        if (die == 2) {
            return random.nextInt();
        }
        return least + random.nextInt(most - least + 1);
    }

    private int slot() {
        return random.nextInt(plain.look(0));
    }

    private String song(int depth, int steps) {
        StringBuilder text = new StringBuilder();
        for (int i = 0; i < steps; i++) {
            String asked = random.nextInt(3) == 0 ? " if " + random.nextInt(colours) : "";
            int die = random.nextInt(10);
            if (die < 4) {
                text.append("lift ").append(slot()).append(" to ").append(slot()).append(asked).append("; ");
            } else if (die < 7) {
                text.append("swap ").append(slot()).append(' ').append(slot()).append(asked).append(";\n");
            } else if (die < 8) {
                text.append("turn ").append(random.nextInt(16)).append(';');
            } else if (depth < 3) {
                text.append("times ").append(1 + random.nextInt(4)).append('(');
                text.append(song(depth + 1, random.nextInt(4))).append(')');
            }
        }
        return text.toString();
    }

    private static final String[] BITS = {
        "lift", "to", "if", "swap", "turn", "times", "(", ")", ";", " ", "\n", "0", "3", "15", "16", "00007", "0007", "9999",
        "x", "Lift", "\t", "times 9(", "times 2(", "turn 1;", "swap 0 1;", "lift 1 to 2 if 1;", "é", "swap 3 2 if 10;"};

    private String spoiled(String text) {
        StringBuilder s = new StringBuilder(text);
        int times = 1 + random.nextInt(2);
        for (int i = 0; i < times; i++) {
            int place = random.nextInt(s.length() + 1);
            switch (random.nextInt(3)) {
                case 0:
                    s.insert(place, BITS[random.nextInt(BITS.length)]);
                    break;
                case 1:
                    s.delete(place, Math.min(s.length(), place + 1 + random.nextInt(3)));
                    break;
                default:
                    s.append(BITS[random.nextInt(BITS.length)]);
                    break;
            }
        }
        return s.toString();
    }

    private String jumble() {
        StringBuilder s = new StringBuilder();
        int size = random.nextInt(12);
        for (int i = 0; i < size; i++) {
            s.append(BITS[random.nextInt(BITS.length)]).append(random.nextBoolean() ? " " : "");
        }
        return s.toString();
    }

    private String deep() {
        StringBuilder s = new StringBuilder();
        int size = 1 + random.nextInt(5);
        for (int i = 0; i < size; i++) {
            s.append("times ").append(1 + random.nextInt(9)).append('(');
            if (random.nextInt(3) == 0) {
                s.append("swap ").append(slot()).append(' ').append(slot()).append(';');
            }
        }
        s.append("turn 1;");
        int closed = random.nextInt(8) == 0 ? size + 1 : size - (random.nextInt(8) == 0 ? 1 : 0);
        for (int i = 0; i < closed; i++) {
            s.append(')');
        }
        return s.toString();
    }

    private void tellText(int k, String text) {
        int length = Math.min(text.length(), 380);
        for (int i = 0; i < length; i += 20) {
            int[] five = new int[5];
            for (int j = 0; j < 20; j++) {
                int sign = i + j < length ? text.charAt(i + j) & 255 : ' ';
                five[j / 4] = (five[j / 4] << 8) | sign;
            }
            feed(five);
        }
        same("end " + length, real.end(length), plain.end(length));
        same("text " + k + " of '" + text + "'", real.text(k), plain.text(k));
        if (random.nextInt(2) == 0) {
            same("fault 0", real.fault(0), plain.fault(0));
            same("fault 1", real.fault(1), plain.fault(1));
        }
    }

    private void feed(int[] v) {
        same("feed " + v[0] + " " + v[1] + " " + v[2] + " " + v[3] + " " + v[4],
            real.feed(v[0], v[1], v[2], v[3], v[4]), plain.feed(v[0], v[1], v[2], v[3], v[4]));
    }

    private void oneCall() {
        int k = near(0, 3);
        int what = near(0, 1);
        int three = near(0, 2);
        int n = plain.look(0);
        int strand = near(0, n - 1);
        int other = near(0, n - 1);
        int c = random.nextInt(4) == 0 ? near(0, 9) : random.nextInt(colours);
        switch (random.nextInt(36)) {
            case 0:
                if (random.nextInt(3) == 0) {
                    int v = random.nextInt();
                    same("state " + v, real.state(v), plain.state(v));
                }
                break;
            case 1:
                if (random.nextInt(12) == 0) {
                    int slots = near(4, 16);
                    same("stool " + slots, real.stool(slots), plain.stool(slots));
                }
                break;
            case 2:
                if (random.nextInt(3) == 0) {
                    same("colour " + strand + " " + c, real.colour(strand, c), plain.colour(strand, c));
                }
                break;
            case 3:
                if (random.nextInt(3) == 0) {
                    int v = random.nextBoolean() ? 0 : near(0, 1000);
                    same("slip " + v, real.slip(v), plain.slip(v));
                }
                break;
            case 4:
                feed(new int[] {random.nextInt(), 538976288, random.nextInt(), 540097312, 0});
                break;
            case 5:
                int end = near(0, 30);
                same("end " + end, real.end(end), plain.end(end));
                break;
            case 6:
                tellText(k, song(0, random.nextInt(6)));
                break;
            case 7:
                tellText(k, random.nextBoolean() ? spoiled(song(0, random.nextInt(5))) : random.nextBoolean() ? jumble() : deep());
                break;
            case 8:
                same("fault " + what, real.fault(what), plain.fault(what));
                break;
            case 9:
            case 10:
            case 11:
                int often = random.nextInt(6) == 0 ? near(1, 50) : 1 + random.nextInt(4);
                same("sing " + k + " " + often, real.sing(k, often), plain.sing(k, often));
                break;
            case 12:
                same("at " + strand + " " + what, real.at(strand, what), plain.at(strand, what));
                break;
            case 13:
                same("of " + strand + " " + three, real.of(strand, three), plain.of(strand, three));
                break;
            case 14:
                same("over " + strand + " " + other, real.over(strand, other), plain.over(strand, other));
                break;
            case 15:
                int row = near(0, Math.max(0, plain.look(2) - 1));
                same("outside " + row + " " + what, real.outside(row, what), plain.outside(row, what));
                break;
            case 16:
                same("back " + k + " " + what, real.back(k, what), plain.back(k, what));
                break;
            case 17:
                int times = near(0, 99);
                boolean mirror = random.nextBoolean();
                same("where " + k + " " + strand + " " + times + " " + mirror,
                    real.where(k, strand, times, mirror), plain.where(k, strand, times, mirror));
                break;
            case 18:
                same("want " + strand + " " + c, real.want(strand, c), plain.want(strand, c));
                break;
            case 19:
                wantWhatIs();
                break;
            case 20:
                same("fewest " + three, real.fewest(three), plain.fewest(three));
                break;
            case 21:
                wantWhatComes(k);
                same("cut " + three, real.cut(three), plain.cut(three));
                break;
            case 22:
                wantWhatComes(k);
                int singings = random.nextInt(4) == 0 ? near(1, 30) : 1 + random.nextInt(6);
                same("dropped " + k + " " + singings + " " + three, real.dropped(k, singings, three), plain.dropped(k, singings, three));
                break;
            case 23:
                int monks = near(1, 9);
                same("beats " + k + " " + monks, real.beats(k, monks), plain.beats(k, monks));
                break;
            case 24:
                int i = random.nextInt(3) == 0 ? near(0, 29) : random.nextInt(4);
                int told = random.nextInt(3) == 0 ? -1 : c;
                same("name " + i + " " + told, real.name(i, told), plain.name(i, told));
                break;
            case 25:
                same("lay " + k, real.lay(k), plain.lay(k));
                break;
            case 26:
                int out = near(-1, n);
                same("pulled " + out, real.pulled(out), plain.pulled(out));
                break;
            case 27:
                int ring = near(-1, n - 1);
                same("loops " + ring, real.loops(ring), plain.loops(ring));
                break;
            case 28:
                int song = near(0, 3);
                same("alike " + k + " " + song, real.alike(k, song), plain.alike(k, song));
                break;
            case 29:
                same("period " + what, real.period(what), plain.period(what));
                break;
            case 30:
                same("undo", real.undo(), plain.undo());
                break;
            case 31:
                boolean taken = random.nextInt(3) == 0;
                if (random.nextInt(3) == 0) {
                    same("image " + taken, real.image(taken), plain.image(taken));
                }
                break;
            case 32:
                forgetName();
                break;
            default:
                int look = random.nextInt(4) == 0 ? near(0, 75) : random.nextInt(6);
                same("look " + look, real.look(look), plain.look(look));
                break;
        }
    }

    /** Else hardly anything that is wanted could ever be reached. */
    private void wantWhatIs() {
        int n = plain.look(0);
        int turn = random.nextInt(n);
        for (int s = 0; s < n; s++) {
            int c = plain.at((s + turn) % n, 1);
            same("want " + s + " " + c, real.want(s, c), plain.want(s, c));
        }
    }

    private void wantWhatComes(int k) {
        if (k < 0 || k > 3 || random.nextInt(3) == 0) {
            return;
        }
        int n = 1 + random.nextInt(5);
        int strand = random.nextInt(plain.look(0) + 1) - 1;
        int[] colour = plain.coloursAtEnd(k, n, strand, 1 + random.nextInt(n));
        for (int s = 0; s < colour.length; s++) {
            same("want " + s + " " + colour[s], real.want(s, colour[s]), plain.want(s, colour[s]));
        }
    }

    private void forgetName() {
        for (int i = 0; i < 30; i++) {
            if (plain.look(40 + i) != -1) {
                same("name " + i + " -1", real.name(i, -1), plain.name(i, -1));
            }
        }
    }
}
