/** The boundary cases of promises 15 to 21: what songs would do, told in thought. */
abstract class BoundaryThought extends Sentences {

    static void all() {
        nothingStays();
        back();
        where();
        want();
        fewest();
        cut();
        dropped();
        beats();
        beatsFull();
    }

    private static void nothingStays() {
        sentence(15, "IN THOUGHT (nothing of it stays; no SLIPS)", x -> {
            x.stool(4);
            colours(x, 1, 2, 3, 4);
            songs(x, "lift 0 to 3;swap 1 2;turn 1;", "swap 0 1 if 1;");
            x.sing(0, 1);
            x.slip(1000);
            x.state(5);
            wants(x, 4, 3, 2, 1);
            x.name(0, 7);
            String before = seen(x);
            due("back", x.back(0, 0), 2);
            due("back by colours", x.back(0, 1), 2);
            due("where", x.where(0, 3, 1, false), 3);
            due("mirror", x.where(0, 3, 1, true), 2);
            due("fewest", x.fewest(0), 2);
            due("its first", x.fewest(1) >= 0 && x.fewest(2) >= 0, true);
            due("cut", x.cut(0), 0);
            due("dropped", x.dropped(0, 30, 0) >= 0, true);
            due("beats", x.beats(0, 1), 2);
            due("lay", x.lay(0), 1);
            due("pulled", x.pulled(NONE) >= 0, true);
            due("loops", x.loops(NONE) >= 0, true);
            due("alike", x.alike(0, 1), 0);
            due("period", x.period(0), 2);
            due("all", seen(x), before);
        });
        sentence(16, "from the STRANDS as they are now", x -> {
            songs(x, "lift 0 to 3;", "turn 3;");
            x.sing(1, 1);
            due("strand 5 is at slot 0", x.where(0, 5, 1, false), 3);
            due("strand 0 is at slot 3", x.where(0, 0, 1, false), 2);
            due("none sung", x.where(0, 7, 0, false), 2);
        });
    }

    private static void back() {
        sentence(15, "BACK: the least number of singings (1 .. 5040) of a SONG", x -> {
            songs(x, "", "turn 8;", "turn 1;", "turn 7;");
            due("an empty song: 1, not 0", x.back(0, 0), 1);
            due("an empty song by colours", x.back(0, 1), 1);
            due("all around at once", x.back(1, 0), 1);
            due("N", x.back(2, 0), 8);
            due("N the other way", x.back(3, 0), 8);
            due("all colours alike", x.back(2, 1), 1);
        });
        sentence(15, "(1 .. 5040)", x -> {
            x.stool(16);
            colours(x, 2, 4, 0, 2, 2, 0, 0, 2, 3, 0, 4, 1, 1, 3, 4, 3);
            songs(x, "turn 6;lift 7 to 7;swap 11 4;lift 9 to 15 if 1;swap 0 8;");
            due("5040 by strands", x.back(0, 0), 5040);
            due("5040 by colours", x.back(0, 1), 5040);
        });
        sentence(15, "BACK; NONE if it takes more, one can't be, or another what.", x -> {
            x.stool(16);
            colours(x, 3, 0, 2, 2, 3, 1, 2, 1, 3, 2, 0, 0, 3, 3, 1, 3);
            songs(x, "lift 12 to 9 if 3;swap 0 14 if 2;turn 15;");
            due("5041 by colours", x.back(0, 1), NONE);
            due("more by strands", x.back(0, 0), NONE);
            x.stool(16);
            colours(x, 0, 2, 4, 0, 0, 1, 2, 1, 3, 2, 0, 2, 2, 1, 0, 3);
            songs(x, "turn 13;lift 12 to 6 if 3;lift 8 to 5 if 4;");
            due("5044 by strands", x.back(0, 0), NONE);
            due("5044 by colours", x.back(0, 1), NONE);
            x.stool(8);
            x.colour(0, 1);
            songs(x, "swap 0 1 if 1;");
            due("never by strands", x.back(0, 0), NONE);
            due("never by colours", x.back(0, 1), NONE);
        });
        sentence(15, "one can't be, or another what", x -> {
            for (int what = 0; what < 2; what++) {
                due("song 3", x.back(3, what), 1);
                due("song 4", x.back(4, what), NONE);
                due("song -1", x.back(-1, what), NONE);
            }
            due("what 2", x.back(0, 2), NONE);
            due("what -1", x.back(0, -1), NONE);
            for (int v : FAR) {
                due("song " + v, x.back(v, 0), NONE);
                due("what " + v, x.back(0, v), NONE);
            }
        });
        sentence(15, "behind which each STRAND is where it is now (what 0), each SLOT has the COLOUR that it has now (1)", x -> {
            x.stool(4);
            colours(x, 1, 2, 1, 2);
            songs(x, "turn 1;", "lift 0 to 3;", "lift 0 to 2 if 1;");
            due("strands", x.back(0, 0), 4);
            due("colours", x.back(0, 1), 2);
            due("strands", x.back(1, 0), 4);
            due("colours", x.back(1, 1), 2);
            due("never again", x.back(2, 0), NONE);
            x.sing(2, 1);
            due("from now on always", x.back(2, 0), 1);
        });
    }

    private static void where() {
        sentence(16, "WHERE a STRAND is behind n (0 .. 99) singings.", x -> {
            songs(x, "turn 1;");
            due("0", x.where(0, 0, 0, false), 0);
            due("0, mirror", x.where(0, 0, 0, true), 0);
            due("1", x.where(0, 0, 1, false), 1);
            due("99", x.where(0, 0, 99, false), 99 % 8);
            due("99, mirror", x.where(0, 0, 99, true), 5);
            due("-1", x.where(0, 0, -1, false), NONE);
            due("100", x.where(0, 0, 100, false), NONE);
            due("-1, mirror", x.where(0, 0, -1, true), NONE);
            due("100, mirror", x.where(0, 0, 100, true), NONE);
            for (int n : FAR) {
                due("n " + n, x.where(0, 0, n, false), NONE);
            }
        });
        sentence(16, "the SLOT; NONE if one can't be.", x -> {
            for (int n = 4; n <= 16; n += 3) {
                x.stool(n);
                due("song 3, the last strand", x.where(3, n - 1, 1, false), n - 1);
                due("strand " + n, x.where(0, n, 1, false), NONE);
                due("strand " + n + ", mirror", x.where(0, n, 1, true), NONE);
                due("strand -1", x.where(0, -1, 0, false), NONE);
            }
            due("song 4", x.where(4, 0, 1, false), NONE);
            due("song -1", x.where(-1, 0, 1, true), NONE);
            for (int v : FAR) {
                due("song " + v, x.where(v, 0, 1, false), NONE);
                due("strand " + v, x.where(0, v, 1, true), NONE);
            }
        });
        sentence(16, "MIRROR: likewise by the SONG with each SLOT s as N - 1 - s", x -> {
            for (int n = 4; n <= 16; n++) {
                x.stool(n);
                songs(x, "lift 0 to " + (n - 1) + ";", "swap 0 1;", "lift " + (n - 1) + " to 1 if 3;");
                due("lift of the last to the first, of " + n, x.where(0, n - 1, 1, true), 0);
                due("the first goes one on", x.where(0, 0, 1, true), 1);
                due("swap of the last two", x.where(1, n - 1, 1, true), n - 2);
                due("the first stays", x.where(1, 0, 1, true), 0);
                due("the colour is not there", x.where(2, 0, 1, true), 0);
                x.colour(0, 3);
                due("the colour of the mirrored slot", x.where(2, 0, 1, true), n - 2);
            }
        });
        sentence(16, "each turn k as N - k modulo N", x -> {
            for (int n = 4; n <= 16; n++) {
                x.stool(n);
                for (int k : new int[] {0, 1, n - 1, Math.min(n, 15), 15}) {
                    tell(x, 0, "turn " + k + ";");
                    due("turn " + k + " of " + n, x.where(0, 0, 1, true), Math.floorMod(n - k, n));
                    due("the last, turn " + k + " of " + n, x.where(0, n - 1, 1, true), Math.floorMod(n - 1 - k, n));
                }
            }
        });
    }

    private static void want() {
        sentence(17, "WANT of a SLOT: true; false if one can't be.", x -> {
            BoundaryStool.fill(x);
            String before = seen(x);
            due("slot -1", x.want(-1, 1), false);
            due("slot 5 of 5", x.want(5, 1), false);
            due("colour -1", x.want(0, -1), false);
            due("colour 10", x.want(0, 10), false);
            for (int v : FAR) {
                due("slot " + v, x.want(v, 1), false);
                due("colour " + v, x.want(0, v), false);
            }
            due("all", seen(x), before);
        });
        sentence(17, "each SLOT would have a told WANT (a COLOUR; of each SLOT 0 at first)", x -> {
            for (int n = 4; n <= 16; n++) {
                x.stool(n);
                due("the last slot of " + n, x.want(n - 1, 9), true);
                due("one more than " + n, x.want(n, 9), false);
                due("it", x.look(20 + n - 1), 9);
                due("it alone", x.look(20 + n - 2), 0);
                due("0 again", x.want(n - 1, 0), true);
                due("it", x.look(20 + n - 1), 0);
            }
        });
    }

    private static void fewest() {
        sentence(18, "with N 7 at most", x -> {
            for (int n = 4; n <= 16; n++) {
                x.stool(n);
                x.colour(0, 1);
                x.want(n - 1, 1);
                due("lifts of " + n, x.fewest(0), n <= 7 ? 1 : NONE);
                due("a of " + n, x.fewest(1), n <= 7 ? 0 : NONE);
                due("b of " + n, x.fewest(2), n <= 7 ? n - 1 : NONE);
            }
        });
        sentence(18, "FEWEST what 0 how many lifts, 1 a, 2 b of the first one.", x -> {
            x.stool(7);
            colours(x, 0, 1, 2, 3, 4, 5, 6);
            wants(x, 6, 5, 4, 3, 2, 1, 0);
            due("the most there can be", x.fewest(0), 6);
            due("a", x.fewest(1), 0);
            due("b", x.fewest(2), 1);
            wants(x, 6, 0, 1, 2, 3, 4, 5);
            due("the last to the first", x.fewest(0), 1);
            due("a", x.fewest(1), 6);
            due("b", x.fewest(2), 0);
        });
        sentence(18, "NONE if it can't, N is above 7, there is none, or another what.", x -> {
            x.stool(4);
            wants(x, 0, 0, 0, 1);
            due("a colour that nobody has", x.fewest(0), NONE);
            due("no first one", x.fewest(1), NONE);
            due("no first one", x.fewest(2), NONE);
            colours(x, 1, 1, 0, 0);
            due("one too many", x.fewest(0), NONE);
            colours(x, 0, 0, 1, 0);
            due("it can", x.fewest(0), 1);
            due("what 3", x.fewest(3), NONE);
            due("what -1", x.fewest(-1), NONE);
            for (int what : FAR) {
                due("what " + what, x.fewest(what), NONE);
            }
        });
        sentence(18, "(0 lifts: NONE)", x -> {
            x.stool(7);
            due("0 lifts", x.fewest(0), 0);
            due("a", x.fewest(1), NONE);
            due("b", x.fewest(2), NONE);
        });
        sentence(18, "of several the least a, then b", x -> {
            x.stool(4);
            colours(x, 1, 2, 3, 4);
            wants(x, 2, 1, 3, 4);
            due("0 to 1, or 1 to 0", x.fewest(1), 0);
            due("b", x.fewest(2), 1);
            colours(x, 1, 1, 2, 2);
            wants(x, 1, 2, 1, 2);
            due("0 to 2, 1 to 2, 2 to 1 or 3 to 1", x.fewest(1), 0);
            due("b", x.fewest(2), 2);
            colours(x, 1, 2, 2, 3);
            wants(x, 2, 3, 1, 2);
            due("two lifts", x.fewest(0), 2);
            due("the least a", x.fewest(1), 0);
            due("the least b", x.fewest(2), 1);
            colours(x, 1, 2, 3, 0);
            wants(x, 0, 1, 2, 3);
            due("the last alone", x.fewest(1), 3);
            due("to the first", x.fewest(2), 0);
            wants(x, 1, 0, 2, 3);
            due("the last alone", x.fewest(1), 3);
            due("between", x.fewest(2), 1);
        });
        sentence(18, "NONE if it can't", x -> {
            x.stool(7);
            songs(x, "lift 0 to 6;");
            colours(x, 9, 0, 0, 0, 0, 0, 0);
            wants(x, 0, 0, 0, 0, 0, 0, 9);
            x.sing(0, 1);
            due("as the colours are now", x.fewest(0), 0);
            x.colour(1, 8);
            due("8 is not wanted", x.fewest(0), NONE);
        });
    }

    /** Rounds of five, seven and two: behind 70 singings alone all is as at first. */
    private static void longSong(RoundStool x, int k) {
        x.stool(14);
        due("a long song", tell(x, k, "lift 0 to 4;lift 5 to 11;swap 12 13;"), 3);
        colours(x, 1, 0, 0, 0, 0, 2, 0, 0, 0, 0, 0, 0, 3, 4);
    }

    private static void wantsBehind(RoundStool x, int singings) {
        for (int s = 0; s < 5; s++) {
            x.want(s, (s + singings) % 5 == 0 ? 1 : 0);
        }
        for (int s = 0; s < 7; s++) {
            x.want(5 + s, (s + singings) % 7 == 0 ? 2 : 0);
        }
        x.want(12, singings % 2 == 0 ? 3 : 4);
        x.want(13, singings % 2 == 0 ? 4 : 3);
    }

    private static void cut() {
        sentence(19, "by which SONG, sung how often (0 .. 30), from STRAND s at SLOT s", x -> {
            longSong(x, 3);
            wantsBehind(x, 30);
            due("30", x.cut(0), 1);
            due("song 3", x.cut(1), 3);
            due("30 times", x.cut(2), 30);
            wantsBehind(x, 31);
            due("31", x.cut(0), 0);
            wantsBehind(x, 1);
            due("1", x.cut(0), 1);
            due("once", x.cut(2), 1);
            wantsBehind(x, 0);
            due("0, by each empty song 31 times", x.cut(0), 3 * 31 + 1);
            due("song 0", x.cut(1), 0);
            due("not at all", x.cut(2), 0);
        });
        sentence(19, "from STRAND s at SLOT s", x -> {
            longSong(x, 0);
            wantsBehind(x, 2);
            x.sing(0, 50);
            due("from the beginning, not from now", x.cut(2), 2);
        });
        sentence(19, "how many (SONG, times) there are, the first (SONG, then times)", x -> {
            x.stool(4);
            colours(x, 1, 0, 0, 0);
            songs(x, "lift 0 to 3;", "turn 1;", "turn 3;", "turn 2;");
            wants(x, 0, 1, 0, 0);
            due("3, 7, .. 27; 1, 5, .. 29; 3, 7, .. 27", x.cut(0), 7 + 8 + 7);
            due("the least song", x.cut(1), 0);
            due("then the least times", x.cut(2), 3);
            wants(x, 0, 0, 1, 0);
            due("2, 6, .. 30 thrice; 1, 3, .. 29", x.cut(0), 8 + 8 + 8 + 15);
            due("the least song", x.cut(1), 0);
            due("then times", x.cut(2), 2);
        });
        sentence(19, "CUT what 0 how many, 1 the SONG, 2 how often, of the first (NONE).", x -> {
            x.want(7, 9);
            due("none", x.cut(0), 0);
            due("no song", x.cut(1), NONE);
            due("no times", x.cut(2), NONE);
        });
        sentence(19, "NONE for another what.", x -> {
            due("what 3", x.cut(3), NONE);
            due("what -1", x.cut(-1), NONE);
            for (int what : FAR) {
                due("what " + what, x.cut(what), NONE);
            }
            due("what 0", x.cut(0), 124);
        });
    }

    private static void dropped() {
        sentence(20, "DROPPED: a SONG sung n (1 .. 30) times from STRAND s at SLOT s", x -> {
            x.stool(4);
            colours(x, 1, 2, 3, 4);
            songs(x, "turn 1;");
            x.sing(0, 1);
            wants(x, 3, 4, 1, 2);
            due("30", x.dropped(0, 30, 0), 1 + 4 * 30);
            due("29", x.dropped(0, 29, 0), 0);
            wants(x, 4, 1, 2, 3);
            due("1", x.dropped(0, 1, 0), 1 + 4);
            due("0", x.dropped(0, 0, 0), NONE);
            due("31", x.dropped(0, 31, 0), NONE);
            due("-1", x.dropped(0, -1, 0), NONE);
            for (int n : FAR) {
                due("n " + n, x.dropped(0, n, 0), NONE);
            }
        });
        sentence(20, "one STRAND dropped ahead of singing t (1 .. n)", x -> {
            x.stool(4);
            colours(x, 1, 2, 3, 4);
            songs(x, "lift 0 to 1;lift 0 to 3;", "lift 0 to 2;lift 3 to 0;");
            wants(x, 1, 4, 2, 3);
            due("by the last singing alone", x.dropped(0, 3, 0), 1);
            due("strand 0", x.dropped(0, 3, 1), 0);
            due("t is n", x.dropped(0, 3, 2), 3);
            due("with n 2 none is dropped, or one that is not lifted", x.dropped(0, 2, 2), 3);
            wants(x, 2, 1, 3, 4);
            due("by the first singing alone", x.dropped(0, 3, 0), 1);
            due("strand 1", x.dropped(0, 3, 1), 1);
            due("t is 1", x.dropped(0, 3, 2), 1);
            wants(x, 1, 2, 3, 4);
            due("the last strand", x.dropped(1, 3, 1), 3);
            due("once", x.dropped(1, 3, 0), 1);
        });
        sentence(20, "it is not moved by lift or swap as the one at a (that MOVE is not made)", x -> {
            x.stool(4);
            colours(x, 1, 2, 3, 4);
            songs(x, "lift 0 to 3;", "swap 0 3;", "turn 1;swap 1 1;");
            wants(x, 1, 2, 3, 4);
            due("a lift is not made", x.dropped(0, 1, 1), 0);
            due("a swap is not made", x.dropped(1, 1, 1), 0);
            wants(x, 2, 3, 4, 1);
            due("it is moved all the same by the others", x.dropped(0, 1, 0), 1 + 3);
            wants(x, 4, 1, 2, 3);
            due("turned all the same", x.dropped(2, 1, 0), 1 + 4);
        });
        sentence(20, "the first (STRAND, then t)", x -> {
            x.stool(4);
            colours(x, 1, 2, 3, 4);
            songs(x, "lift 0 to 3;");
            wants(x, 2, 3, 4, 1);
            due("strand 1 ahead of 1 or 2", x.dropped(0, 2, 0), 2);
            due("strand 1", x.dropped(0, 2, 1), 1);
            due("the least t", x.dropped(0, 2, 2), 1);
            wants(x, 1, 2, 3, 4);
            colours(x, 1, 2, 3, 4);
            due("strand 0 by any t", x.dropped(0, 7, 1), 0);
            due("the least t", x.dropped(0, 7, 2), 1);
            songs(x, "swap 0 1;swap 2 3;");
            colours(x, 1, 1, 2, 3);
            wants(x, 1, 1, 2, 3);
            due("strand 2 ahead of 1", x.dropped(0, 1, 0), 1);
            due("strand 2", x.dropped(0, 1, 1), 2);
            songs(x, "lift 0 to 2;swap 0 2;", "lift 1 to 3;swap 0 3;");
            wants(x, 1, 2, 1, 3);
            due("0 ahead of 2, and 1 ahead of 1", x.dropped(0, 2, 0), 2);
            due("the least strand", x.dropped(0, 2, 1), 0);
            due("though its t is greater", x.dropped(0, 2, 2), 2);
            wants(x, 1, 3, 1, 2);
            due("0 ahead of 1, and 1 ahead of 2", x.dropped(1, 2, 0), 2);
            due("the least strand", x.dropped(1, 2, 1), 0);
            due("its t", x.dropped(1, 2, 2), 1);
        });
        sentence(20, "none dropped, told as STRAND NONE, t n and 1, is asked first, and counts", x -> {
            due("an empty song: none, and each strand by each t", x.dropped(0, 30, 0), 1 + 8 * 30);
            due("none", x.dropped(0, 30, 1), NONE);
            due("n and 1", x.dropped(0, 30, 2), 31);
            due("n and 1", x.dropped(0, 1, 2), 2);
            due("it counts", x.dropped(0, 1, 0), 9);
        });
        sentence(20, "1 the STRAND (NONE: none dropped, or nothing fits), 2 t (NONE if nothing fits) of the first", x -> {
            x.want(0, 9);
            due("nothing fits", x.dropped(0, 5, 0), 0);
            due("no strand", x.dropped(0, 5, 1), NONE);
            due("no t", x.dropped(0, 5, 2), NONE);
        });
        sentence(20, "NONE if one can't be, or another what.", x -> {
            due("song 3", x.dropped(3, 1, 0), 9);
            due("song 4", x.dropped(4, 1, 0), NONE);
            due("song -1", x.dropped(-1, 1, 0), NONE);
            due("what 3", x.dropped(0, 1, 3), NONE);
            due("what -1", x.dropped(0, 1, -1), NONE);
            for (int v : FAR) {
                due("song " + v, x.dropped(v, 1, 0), NONE);
                due("what " + v, x.dropped(0, 1, v), NONE);
            }
        });
    }

    private static void beatsOf(RoundStool x, String text, int monks, int count) {
        due("'" + text + "'", tell(x, 0, text) >= 0, true);
        due("beats of '" + text + "' for " + monks, x.beats(0, monks), count);
    }

    private static void beats() {
        sentence(21, "BEATS of a SONG for MONKS; NONE if one can't be.", x -> {
            songs(x, "swap 0 1;swap 2 3;", "", "", "swap 0 1;");
            due("song 3", x.beats(3, 1), 1);
            due("song 4", x.beats(4, 1), NONE);
            due("song -1", x.beats(-1, 1), NONE);
            due("0 monks", x.beats(0, 0), NONE);
            due("10 monks", x.beats(0, 10), NONE);
            due("-1 monks", x.beats(0, -1), NONE);
            for (int v : FAR) {
                due("song " + v, x.beats(v, 1), NONE);
                due("monks " + v, x.beats(0, v), NONE);
            }
        });
        sentence(21, "in their order, MONKS 1 .. 9", x -> {
            x.stool(16);
            StringBuilder ten = new StringBuilder();
            for (int s = 0; s < 10; s++) {
                ten.append("lift ").append(s).append(" to ").append(s).append(';');
            }
            String nine = ten.substring(0, ten.indexOf("lift 9"));
            beatsOf(x, nine, 9, 1);
            beatsOf(x, nine, 8, 2);
            beatsOf(x, nine, 1, 9);
            beatsOf(x, ten.toString(), 9, 2);
            beatsOf(x, ten.toString(), 1, 10);
            beatsOf(x, ten.toString(), 5, 2);
            beatsOf(x, ten.toString(), 4, 3);
        });
        sentence(21, "BEATS: lifts and swaps of a SONG (by numbers alone; COLOURS not asked, turns left out)", x -> {
            beatsOf(x, "", 9, 0);
            beatsOf(x, "turn 1;turn 2;", 1, 0);
            beatsOf(x, "swap 0 1;turn 4;swap 0 1;turn 1;", 9, 2);
            beatsOf(x, "swap 0 1 if 9;swap 0 1 if 8;", 9, 2);
            beatsOf(x, "times 3(swap 0 1;)", 9, 3);
        });
        sentence(21, "if they have a SLOT in common", x -> {
            beatsOf(x, "swap 0 1;swap 1 2;", 9, 2);
            beatsOf(x, "swap 0 1;swap 2 1;", 9, 2);
            beatsOf(x, "swap 0 1;swap 0 2;", 9, 2);
            beatsOf(x, "swap 0 1;swap 2 0;", 9, 2);
            beatsOf(x, "swap 0 1;swap 0 1;", 9, 2);
            beatsOf(x, "lift 0 to 0;lift 0 to 7;", 9, 2);
            beatsOf(x, "lift 0 to 7;lift 7 to 7;", 9, 2);
            beatsOf(x, "lift 3 to 3;swap 3 3;", 9, 2);
        });
        sentence(21, "just one of the two SLOTS of the one lies between the two of the other one", x -> {
            beatsOf(x, "swap 0 2;swap 1 3;", 9, 2);
            beatsOf(x, "swap 1 3;swap 0 2;", 9, 2);
            beatsOf(x, "lift 2 to 0;lift 3 to 1;", 9, 2);
            beatsOf(x, "lift 0 to 6;lift 7 to 1;", 9, 2);
            beatsOf(x, "swap 0 3;swap 1 2;", 9, 1);
            beatsOf(x, "swap 1 2;swap 3 0;", 9, 1);
            beatsOf(x, "swap 0 1;swap 2 3;", 9, 1);
            beatsOf(x, "swap 3 2;swap 1 0;", 9, 1);
            beatsOf(x, "lift 0 to 2;lift 1 to 1;", 9, 1);
            beatsOf(x, "lift 1 to 1;lift 0 to 2;", 9, 1);
            beatsOf(x, "lift 1 to 1;lift 2 to 2;", 9, 1);
        });
    }

    private static void beatsFull() {
        sentence(21, "each at the earliest BEAT (1 ..) behind all BEATS of earlier ones that CROSS it", x -> {
            beatsOf(x, "swap 0 1;", 1, 1);
            beatsOf(x, "swap 0 1;swap 1 2;swap 2 3;swap 3 4;", 9, 4);
            beatsOf(x, "swap 0 1;swap 0 1;swap 2 3;", 9, 2);
            beatsOf(x, "swap 0 1;swap 0 1;swap 2 3;swap 2 3;swap 1 2;", 9, 3);
            beatsOf(x, "swap 0 1;swap 2 3;swap 2 3;swap 0 2;", 9, 3);
            beatsOf(x, "swap 2 3;swap 2 3;swap 0 1;swap 0 2;", 9, 3);
        });
        sentence(21, "at which fewer than MONKS move", x -> {
            beatsOf(x, "swap 0 1;swap 0 1;swap 2 3;", 2, 2);
            beatsOf(x, "swap 0 1;swap 0 1;swap 2 3;swap 4 5;", 2, 2);
            beatsOf(x, "swap 0 1;swap 0 1;swap 2 3;swap 4 5;swap 6 7;", 2, 3);
            beatsOf(x, "swap 0 1;swap 0 1;swap 2 3;", 1, 3);
            beatsOf(x, "swap 0 1;swap 2 3;swap 4 5;swap 6 7;", 3, 2);
            beatsOf(x, "swap 0 1;swap 2 3;swap 4 5;swap 6 7;", 4, 1);
        });
        sentence(21, "How many BEATS.", x -> {
            beatsOf(x, "times 5(times 5(times 8(swap 0 7;)))", 9, 200);
            beatsOf(x, "times 5(times 5(times 2(swap 0 1;swap 2 3;swap 4 5;swap 6 7;)))", 1, 200);
            beatsOf(x, "times 5(times 5(times 2(swap 0 1;swap 2 3;swap 4 5;swap 6 7;)))", 9, 50);
            beatsOf(x, "times 5(times 5(times 2(swap 0 1;swap 2 3;swap 4 5;swap 6 7;)))", 3, 67);
        });
    }
}
