/** The boundary cases of promises 22 to 27: names, pulling, loops, songs that are alike, and periods. */
abstract class BoundaryMaker extends Sentences {

    static void all() {
        name();
        lay();
        pulled();
        loops();
        alike();
        period();
    }

    private static void name() {
        sentence(22, "Row i of the NAME (c NONE: none): true; false if one can't be.", x -> {
            BoundaryStool.fill(x);
            String before = seen(x);
            due("row -1", x.name(-1, 1), false);
            due("row 30", x.name(30, 1), false);
            due("row 30, none", x.name(30, NONE), false);
            due("colour 10", x.name(0, 10), false);
            due("colour -2", x.name(0, -2), false);
            for (int v : FAR) {
                due("row " + v, x.name(v, 1), false);
                due("colour " + v, x.name(0, v), false);
            }
            due("all", seen(x), before);
        });
        sentence(22, "told rows 0 .. 29 (a COLOUR each, or none", x -> {
            for (int i = 0; i < 30; i++) {
                due("row " + i, x.name(i, i % 10), true);
                due("it is told", x.look(40 + i), i % 10);
            }
            for (int i = 0; i < 30; i++) {
                due("none in row " + i, x.name(i, NONE), true);
                due("it is told", x.look(40 + i), NONE);
                due("the next stays", x.look(40 + i + 1), i == 29 ? NONE : (i + 1) % 10);
            }
            due("none where there is none", x.name(0, NONE), true);
        });
    }

    private static void lay() {
        sentence(23, "COLOURS to be laid anew for the NAME by a SONG; NONE.", x -> {
            x.name(0, 1);
            for (int k = 0; k < 4; k++) {
                due("an empty song", x.lay(k), NONE);
            }
            songs(x, "", "", "", "swap 0 1;");
            due("song 3", x.lay(3), 1);
            due("song 4", x.lay(4), NONE);
            due("song -1", x.lay(-1), NONE);
            for (int song : FAR) {
                due("song " + song, x.lay(song), NONE);
            }
            x.name(0, NONE);
            due("no name: no song needs anything", x.lay(0), 0);
            due("song 4 even so", x.lay(4), NONE);
        });
        sentence(23, "sung as often as needed (60 times at most)", x -> {
            x.stool(16);
            songs(x, "lift 0 to 15;", "turn 1;", "turn 1;lift 3 to 3;");
            x.name(29, 5);
            due("the 30th singing", x.lay(0), 1);
            due("turns make no rows", x.lay(1), NONE);
            due("the 30th singing", x.lay(2), 1);
            x.colour(13, 5);
            due("row 29 is strand 29 - 16", x.lay(0), 0);
            due("not that of the other song", x.lay(2), 1);
            x.colour(5, 5);
            due("which is the one at 3 behind 30 turns", x.lay(2), 0);
        });
        sentence(23, "row i (from 0 on)", x -> {
            x.stool(4);
            songs(x, "lift 2 to 0;lift 3 to 1;");
            x.name(0, 5);
            x.colour(2, 5);
            due("row 0 is the first lift", x.lay(0), 0);
            x.name(1, 6);
            due("row 1 is the next", x.lay(0), 1);
            x.colour(3, 6);
            due("of strand 3", x.lay(0), 0);
            songs(x, "swap 0 2;swap 0 2;", "times 5(times 5(times 8(lift 0 to 3;)))", "times 5(times 6(lift 0 to 3;))lift 1 to 1;");
            colours(x, 5, 0, 6, 0);
            due("swaps: 0, then 2", x.lay(0), 0);
            colours(x, 5, 6, 7, 0);
            due("lifts: 0, then 1, of 200 in one singing", x.lay(1), 0);
            x.name(29, 6);
            due("row 29 is 1 again", x.lay(1), 0);
            due("also with 31 rows in one singing", x.lay(2), 0);
        });
        sentence(23, "without asking COLOURS (each if taken as so)", x -> {
            x.stool(4);
            songs(x, "lift 0 to 3 if 9;swap 0 1 if 8;");
            x.name(0, 1);
            x.name(1, 2);
            x.name(2, 3);
            due("0, 1, 2", x.lay(0), 3);
            colours(x, 1, 2, 3, 0);
            due("these have them", x.lay(0), 0);
        });
        sentence(23, "makes from STRAND s at SLOT s", x -> {
            x.stool(4);
            songs(x, "lift 0 to 3;", "turn 1;");
            colours(x, 1, 2, 3, 4);
            x.name(0, 1);
            x.name(1, 2);
            x.sing(1, 1);
            x.slip(1000);
            due("not from now, and without slips", x.lay(0), 0);
            due("nothing stays", x.look(2), 0);
        });
        sentence(23, "by how many STRANDS at least another COLOUR is needed than they have", x -> {
            x.stool(4);
            songs(x, "lift 0 to 3;");
            for (int i = 0; i < 30; i++) {
                x.name(i, i % 4 + 5);
            }
            due("each once, however often it comes", x.lay(0), 4);
            x.colour(3, 8);
            due("one has it", x.lay(0), 3);
            colours(x, 5, 6, 7, 8);
            due("all have it", x.lay(0), 0);
            for (int i = 0; i < 30; i++) {
                x.name(i, i % 4 == 0 ? 0 : NONE);
            }
            due("colour 0 is one, too", x.lay(0), 1);
            x.colour(0, 0);
            due("it has it", x.lay(0), 0);
            x.stool(16);
            songs(x, "lift 0 to 15;");
            x.name(0, 9);
            due("the first of sixteen", x.lay(0), 1);
            x.name(15, 9);
            due("and the last", x.lay(0), 2);
            x.name(0, NONE);
            due("the last alone", x.lay(0), 1);
        });
        sentence(23, "NONE if a STRAND would need two, or rows are not reached.", x -> {
            x.stool(4);
            songs(x, "lift 0 to 3;", "turn 3;");
            x.name(1, 5);
            x.name(29, 5);
            due("strand 1 twice the same", x.lay(0), 1);
            x.name(29, 6);
            due("strand 1 two of them", x.lay(0), NONE);
            x.colour(1, 5);
            due("also if it has one of them", x.lay(0), NONE);
            x.colour(1, 6);
            due("or the other one", x.lay(0), NONE);
            x.name(29, NONE);
            due("one again", x.lay(0), 1);
            due("not reached", x.lay(1), NONE);
            x.name(1, NONE);
            due("nothing to be reached", x.lay(1), 0);
            x.name(0, 0);
            x.name(4, 1);
            due("0 and 1 are two", x.lay(0), NONE);
        });
    }

    private static void pulled() {
        sentence(24, "PULLED: how many (i NONE), or the i-th STRAND; NONE if there is none such.", x -> {
            for (int n = 4; n <= 16; n++) {
                x.stool(n);
                due("all of " + n, x.pulled(NONE), n);
                due("the first", x.pulled(0), 0);
                due("the last", x.pulled(n - 1), n - 1);
                due("none behind it", x.pulled(n), NONE);
            }
            due("-2", x.pulled(-2), NONE);
            for (int i : FAR) {
                due("i " + i, x.pulled(i), NONE);
            }
        });
        sentence(24, "one after the other the least STRAND that no one that is still there is OVER", x -> {
            x.stool(5);
            songs(x, "lift 4 to 2;", "lift 1 to 0;");
            x.sing(0, 1);
            int[] order = {0, 1, 4, 2, 3};
            for (int i = 0; i < 5; i++) {
                due("4 is over 2 and 3: the " + i + "-th", x.pulled(i), order[i]);
            }
            x.sing(1, 1);
            int[] then = {1, 0, 4, 2, 3};
            for (int i = 0; i < 5; i++) {
                due("1 is over 0: the " + i + "-th", x.pulled(i), then[i]);
            }
        });
        sentence(24, "how many come out so; the i-th", x -> {
            x.stool(4);
            songs(x, "swap 0 3;", "swap 1 2;");
            x.sing(0, 2);
            due("0 and 3 hold one another", x.pulled(NONE), 2);
            due("the first", x.pulled(0), 1);
            due("the second", x.pulled(1), 2);
            due("no third", x.pulled(2), NONE);
            x.sing(1, 2);
            due("none comes out", x.pulled(NONE), 0);
            due("no first", x.pulled(0), NONE);
        });
    }

    private static void loops() {
        sentence(25, "LOOPS (strand NONE), or of how many STRANDS a STRAND's ring is; NONE if there is none such.", x -> {
            for (int n = 4; n <= 16; n++) {
                x.stool(n);
                due("each by itself", x.loops(NONE), n);
                due("the first", x.loops(0), 1);
                due("the last", x.loops(n - 1), 1);
                due("none behind it", x.loops(n), NONE);
                tell(x, 0, "turn 1;");
                x.sing(0, 1);
                due("all in one", x.loops(NONE), 1);
                due("the first", x.loops(0), n);
                due("the last", x.loops(n - 1), n);
            }
            due("-2", x.loops(-2), NONE);
            for (int strand : FAR) {
                due("strand " + strand, x.loops(strand), NONE);
            }
        });
        sentence(25, "if each SLOT's end were joined with that SLOT's beginning (STRANDS as they are now): how many rings there are; "
            + "of how many STRANDS that of a STRAND is.", x -> {
            x.stool(6);
            songs(x, "lift 0 to 2;", "swap 4 5;");
            x.sing(0, 1);
            x.sing(1, 1);
            due("0, 1 and 2; 3; 4 and 5", x.loops(NONE), 3);
            int[] sizes = {3, 3, 3, 1, 2, 2};
            for (int s = 0; s < 6; s++) {
                due("strand " + s, x.loops(s), sizes[s]);
            }
            x.undo();
            x.undo();
            due("as they are now", x.loops(NONE), 6);
        });
    }

    private static void alike() {
        sentence(26, "ALIKE; NONE if one can't be.", x -> {
            due("empty songs", x.alike(0, 3), 2);
            due("a song with itself", x.alike(3, 3), 2);
            due("4", x.alike(4, 0), NONE);
            due("4", x.alike(0, 4), NONE);
            due("-1", x.alike(-1, 0), NONE);
            due("-1", x.alike(0, -1), NONE);
            for (int song : FAR) {
                due("song " + song, x.alike(song, 0), NONE);
                due("song " + song, x.alike(0, song), NONE);
            }
        });
        sentence(26, "2, if all STRANDS are at the same SLOTS then, and OVER that comes of it is the same of all", x -> {
            x.stool(16);
            songs(x, "swap 14 15;", "lift 14 to 15;", "lift 15 to 14;", "swap 15 14;");
            due("a swap and a lift", x.alike(0, 1), 2);
            due("the other one is over", x.alike(0, 2), 1);
            due("the other one is over", x.alike(1, 3), 1);
            due("these two", x.alike(2, 3), 2);
            tell(x, 0, "lift 3 to 3;");
            tell(x, 1, "");
            due("a lift in its place leaves nobody over", x.alike(0, 1), 2);
            tell(x, 0, "swap 0 15;swap 0 15;");
            due("back, but each was over the other", x.alike(0, 1), 1);
            tell(x, 1, "swap 0 15;swap 0 15;swap 0 15;swap 0 15;");
            due("twice so often", x.alike(0, 1), 1);
        });
        sentence(26, "1, if the SLOTS alone are; else 0", x -> {
            x.stool(4);
            songs(x, "turn 1;", "lift 3 to 0;", "turn 3;", "lift 0 to 3;");
            due("a turn and a lift", x.alike(0, 1), 1);
            due("the other way", x.alike(1, 0), 1);
            due("a turn back", x.alike(0, 2), 0);
            due("a turn back and a lift", x.alike(2, 3), 1);
            due("lifts apart", x.alike(1, 3), 0);
        });
        sentence(26, "ALIKE of two SONGS, each sung once from STRAND s at SLOT s (COLOURS asked)", x -> {
            x.stool(4);
            songs(x, "swap 0 1 if 3;", "swap 0 1;", "");
            due("without the colour", x.alike(0, 1), 0);
            due("nothing is made", x.alike(0, 2), 2);
            x.colour(0, 3);
            due("with it", x.alike(0, 1), 2);
            x.sing(1, 1);
            x.slip(1000);
            due("not from now, and without slips", x.alike(0, 1), 2);
            due("nothing stays", x.over(0, 1), 1);
        });
    }

    private static void period() {
        sentence(27, "0 without rows", x -> {
            due("by strands", x.period(0), 0);
            due("by colours", x.period(1), 0);
            songs(x, "turn 1;", "swap 0 1 if 9;");
            x.sing(0, 5);
            x.sing(1, 5);
            due("still none", x.period(0), 0);
            due("still none", x.period(1), 0);
        });
        sentence(27, "PERIOD of THE OUTSIDE: the least p (1 ..) by which each row i is as row i and p, as far as there are such", x -> {
            songs(x, "lift 0 to 0;", "lift 1 to 1;", "lift 2 to 2;");
            x.sing(0, 1);
            due("one row", x.period(0), 1);
            x.sing(0, 1);
            due("the same again", x.period(0), 1);
            x.sing(1, 1);
            due("0 0 1", x.period(0), 3);
            x.sing(0, 1);
            due("0 0 1 0", x.period(0), 3);
            x.sing(0, 2);
            due("0 0 1 0 0 0", x.period(0), 4);
            x.undo();
            x.sing(1, 1);
            due("0 0 1 0 0 1", x.period(0), 3);
            x.sing(2, 1);
            due("0 0 1 0 0 1 2: all of them", x.period(0), 7);
            due("by colours", x.period(1), 1);
        });
        sentence(27, "(by STRANDS, or by COLOURS)", x -> {
            x.stool(4);
            songs(x, "lift 0 to 3;");
            colours(x, 1, 2, 1, 2);
            x.sing(0, 50);
            due("by strands", x.period(0), 4);
            due("by colours", x.period(1), 2);
            colours(x, 9, 9, 9, 9);
            due("by the colours then", x.period(1), 2);
        });
        sentence(27, "PERIOD by what 0 STRANDS, 1 COLOURS.", x -> {
            x.stool(4);
            songs(x, "times 6(swap 0 0;)", "swap 3 3;");
            x.sing(0, 49);
            x.sing(1, 5);
            due("299 rows", x.period(0), 299);
            x.sing(1, 1);
            due("300 rows", x.period(0), 300);
            x.sing(0, 50);
            due("no more rows, so as it was", x.period(0), 300);
            due("one colour", x.period(1), 1);
        });
        sentence(27, "NONE for another what.", x -> {
            due("what 2", x.period(2), NONE);
            due("what -1", x.period(-1), NONE);
            for (int what : FAR) {
                due("what " + what, x.period(what), NONE);
            }
        });
    }
}
