/** What the tests have in common: songs, colours and wants told in one line, and a count of what is not as due. */
abstract class Checks {

    static final int NONE = RoundStool.NONE;

    /** Numbers that no bound of the document allows. */
    static final int[] FAR = {Integer.MIN_VALUE, -1000, 5000, Integer.MAX_VALUE};

    private static String where = "";
    private static int passed = 0;
    private static int failed = 0;

    /** What is tested from now on, as it is told if an answer is not as due. */
    static void about(String what) {
        where = what;
    }

    static void due(String what, int got, int want) {
        if (got == want) {
            passed++;
        } else {
            failed++;
            System.out.println(where + ": " + what + " answered " + got + ", due is " + want);
        }
    }

    static void due(String what, boolean got, boolean want) {
        due(what, got ? 1 : 0, want ? 1 : 0);
    }

    static void due(String what, String got, String want) {
        due(what, got.equals(want), true);
        if (!got.equals(want)) {
            System.out.println("   it is " + got + "\n  due is " + want);
        }
    }

    static void finish(String name) {
        System.out.println(name + ": " + passed + " passed, " + failed + " failed");
        if (failed > 0) {
            System.exit(1);
        }
    }

    static void tape(RoundStool x, String text) {
        for (int i = 0; i < text.length(); i += 20) {
            int[] v = new int[5];
            for (int j = 0; j < 20; j++) {
                int sign = i + j < text.length() ? text.charAt(i + j) : 0;
                v[j / 4] = (v[j / 4] << 8) | sign;
            }
            x.feed(v[0], v[1], v[2], v[3], v[4]);
        }
        x.end(text.length());
    }

    static int tell(RoundStool x, int k, String text) {
        tape(x, text);
        return x.text(k);
    }

    /** Songs 0, 1, .. are told, each without a fault. */
    static void songs(RoundStool x, String... texts) {
        for (int k = 0; k < texts.length; k++) {
            due("text '" + texts[k] + "' is told", tell(x, k, texts[k]) >= 0, true);
        }
    }

    static RoundStool with(int n, String... texts) {
        RoundStool x = new RoundStool();
        x.stool(n);
        songs(x, texts);
        return x;
    }

    static void colours(RoundStool x, int... c) {
        for (int s = 0; s < c.length; s++) {
            x.colour(s, c[s]);
        }
    }

    static void wants(RoundStool x, int... c) {
        for (int s = 0; s < c.length; s++) {
            x.want(s, c[s]);
        }
    }

    static void strands(String what, RoundStool x, int... strands) {
        for (int s = 0; s < strands.length; s++) {
            due(what + ": at " + s, x.at(s, 0), strands[s]);
        }
    }

    static void faulty(RoundStool x, String text, int kind, int place) {
        due("'" + text + "'", tell(x, 0, text), NONE);
        due("fault of '" + text + "'", x.fault(0), kind);
        due("place of '" + text + "'", x.fault(1), place);
    }

    static void moves(RoundStool x, String text, int count) {
        due("'" + text + "'", tell(x, 0, text), count);
        due("fault of '" + text + "'", x.fault(0), 0);
        due("place of '" + text + "'", x.fault(1), NONE);
    }

    /** All that can be asked of an object but its tape, fault() and image, as one line. */
    static String seen(RoundStool x) {
        StringBuilder all = new StringBuilder();
        int n = x.look(0);
        for (int what = 0; what < 70; what++) {
            boolean isThere = what < 6 || (what >= 10 && what < 14) || (what >= 20 && what < 20 + n) || what >= 40;
            all.append(isThere ? what + ":" + x.look(what) + " " : "");
        }
        for (int s = 0; s < n; s++) {
            all.append("at ").append(x.at(s, 0)).append(' ').append(x.at(s, 1)).append(" moved ").append(x.of(s, 2)).append(" over");
            for (int t = 0; t < n; t++) {
                all.append(s == t ? "" : " " + x.over(s, t));
            }
            all.append("; ");
        }
        for (int i = 0; i < x.look(2); i++) {
            all.append("row ").append(x.outside(i, 0)).append(' ').append(x.outside(i, 1)).append("; ");
        }
        return all.toString();
    }
}
