/** The boundary cases of promises 1 to 5 and 10 to 14: the stool, what is told of it, singing, and what is seen then. */
abstract class BoundaryStool extends Sentences {

    static void all() {
        newObject();
        state();
        stool();
        colour();
        slip();
        sing();
        lifts();
        swapsAndTurns();
        slots();
        over();
        outside();
    }

    /** An object with something of everything, a fault, a tape of seven bytes and two singings that can be undone. */
    static void fill(RoundStool x) {
        x.stool(5);
        colours(x, 1, 2, 3, 4, 5);
        x.slip(400);
        x.state(77);
        songs(x, "lift 0 to 3;swap 4 1;", "turn 2;", "swap 0 1 if 1;", "times 3(lift 4 to 0;)");
        wants(x, 9, 8, 7, 6, 5);
        x.name(0, 4);
        x.name(29, 6);
        x.sing(3, 1);
        x.sing(0, 1);
        due("a fault", tell(x, 0, "turn 16;"), NONE);
        tape(x, "turn 1;");
    }

    private static int drawn(int state) {
        long next = (1664525L * state + 1013904223L) & 0xFFFFFFFFL;
        return (int) ((next >> 8) % 1000);
    }

    private static int stateThatDraws(int draw) {
        int state = 0;
        while (drawn(state) != draw) {
            state++;
        }
        return state;
    }

    private static void newObject() {
        sentence(1, "Eight strands, all of one colour.", x -> {
            due("N", x.look(0), 8);
            for (int s = 0; s < 8; s++) {
                due("colour of " + s, x.of(s, 1), x.of(0, 1));
            }
            due("a strand 8", x.of(8, 1), NONE);
            due("a slot 8", x.at(8, 0), NONE);
        });
        sentence(1, "`NONE = -1`: None.", x -> {
            due("NONE", RoundStool.NONE, -1);
            due("it is what answers where there is none", x.at(8, 0), -1);
        });
        sentence(1, "STATE of draws (an int, 0 at first)", x -> due("STATE", x.look(4), 0));
        sentence(1, "THE STOOL has N SLOTS 0 .. N - 1 (4 .. 16, 8 at first", x -> due("N", x.look(0), 8));
        sentence(1, "STRAND s is at SLOT s at first", x -> {
            for (int s = 0; s < 8; s++) {
                due("strand at " + s, x.at(s, 0), s);
                due("slot of " + s, x.of(s, 0), s);
            }
        });
        sentence(1, "with COLOUR 0 .. 9 (0 at first", x -> {
            for (int s = 0; s < 8; s++) {
                due("colour at " + s, x.at(s, 1), 0);
                due("colour of " + s, x.of(s, 1), 0);
            }
        });
        sentence(1, "SLIP 0 .. 1000 (0 at first)", x -> due("SLIP", x.look(1), 0));
        sentence(1, "OVER of two STRANDS: how often the one went over the other (0 at first).", x -> {
            for (int a = 0; a < 8; a++) {
                for (int b = 0; b < 8; b++) {
                    due("over " + a + " " + b, x.over(a, b), a == b ? NONE : 0);
                }
            }
        });
        sentence(1, "SONGS 0 .. 3 are TEXTS (empty at first)", x -> {
            for (int k = 0; k < 4; k++) {
                due("moves of " + k, x.look(10 + k), 0);
                due("sung " + k, x.sing(k, 1), 0);
            }
        });
        sentence(1, "of each SLOT 0 at first", x -> {
            for (int s = 0; s < 8; s++) {
                due("want of " + s, x.look(20 + s), 0);
            }
        });
        sentence(1, "(a COLOUR each, or none; none at first)", x -> {
            for (int i = 0; i < 30; i++) {
                due("row " + i + " of the name", x.look(40 + i), NONE);
            }
        });
    }

    private static void state() {
        sentence(2, "STATE is told: what it was.", x -> {
            due("the first", x.state(Integer.MIN_VALUE), 0);
            due("the least int", x.state(Integer.MAX_VALUE), Integer.MIN_VALUE);
            due("the greatest", x.state(-1), Integer.MAX_VALUE);
            due("-1", x.look(4), -1);
            due("-1", x.state(0), -1);
            due("0 again", x.look(4), 0);
        });
        sentence(2, "it becomes 1664525 times itself + 1013904223 (ints, which wrap)", x -> {
            songs(x, "swap 0 1;");
            x.slip(1000);
            for (int state : new int[] {0, 1, -1, 681, 682, Integer.MAX_VALUE, Integer.MIN_VALUE, 0x55555555}) {
                x.state(state);
                x.sing(0, 1);
                due("behind " + state, x.look(4), (int) (1664525L * state + 1013904223L));
            }
            x.state(0);
            x.sing(0, 2);
            due("behind two draws", x.look(4), (int) (1664525L * 1013904223L + 1013904223L));
        });
        sentence(2, "then it is its highest 24 bits (without sign) modulo m", x -> {
            songs(x, "swap 0 1;");
            x.slip(614);
            x.state(1000);
            due("a state below 0 draws 614, which is not below 614", x.sing(0, 1), 1);
            due("the state is below 0", x.look(4), -1616538073);
            x.slip(615);
            x.state(1000);
            due("but below 615", x.sing(0, 1), 0);
        });
    }

    private static void stool() {
        sentence(3, "THE STOOL has N SLOTS 0 .. N - 1 (4 .. 16", x -> {
            for (int n = -2; n <= 20; n++) {
                due("stool " + n, x.stool(n), n >= 4 && n <= 16);
                if (n >= 4 && n <= 16) {
                    due("N", x.look(0), n);
                    due("the last slot of " + n, x.at(n - 1, 0), n - 1);
                    due("none behind the last of " + n, x.at(n, 0), NONE);
                }
            }
            due("the latest that was told", x.look(0), 16);
        });
        sentence(3, "N is told: true; false, and nothing is done, if it can't be.", x -> {
            fill(x);
            String before = seen(x);
            due("3", x.stool(3), false);
            due("17", x.stool(17), false);
            for (int n : FAR) {
                due("stool " + n, x.stool(n), false);
            }
            due("all", seen(x), before);
            due("fault", x.fault(0), 2);
            due("the tape", x.end(7), true);
            due("an image", x.image(false), false);
            due("undone", x.undo(), true);
            due("undone", x.undo(), true);
            due("rows", x.look(2), 0);
        });
        sentence(3, "told anew: all is as at first but N, STATE, the TAPE, fault() and THE IMAGE", x -> {
            fill(x);
            int state = x.look(4);
            x.image(true);
            due("N as at first", x.stool(8), true);
            RoundStool fresh = new RoundStool();
            fresh.state(state);
            due("all", seen(x), seen(fresh));
            due("fault", x.fault(0), 2);
            due("its place", x.fault(1), 5);
            due("the tape", x.text(0), 1);
            due("the image", x.image(false), true);
            due("of the image", x.look(20), 9);
            due("the same N", x.stool(5), true);
            due("SLIP", x.look(1), 0);
            due("WANT", x.look(20), 0);
        });
        sentence(3, "told anew: all is as at first", x -> {
            x.stool(16);
            songs(x, "lift 15 to 0;swap 14 1;");
            for (int s = 0; s < 16; s++) {
                x.colour(s, 9);
                x.want(s, 9);
            }
            x.sing(0, 50);
            x.stool(4);
            x.stool(16);
            for (int s = 0; s < 16; s++) {
                due("at " + s, x.at(s, 0), s);
                due("colour of " + s, x.of(s, 1), 0);
                due("moved " + s, x.of(s, 2), 0);
                due("want of " + s, x.look(20 + s), 0);
                due("15 over " + s, x.over(15, s), s == 15 ? NONE : 0);
            }
            due("rows", x.outside(0, 0), NONE);
            due("sung", x.look(3), 0);
        });
    }

    private static void colour() {
        sentence(4, "COLOUR of a STRAND: true; false if one can't be.", x -> {
            fill(x);
            String before = seen(x);
            due("strand -1", x.colour(-1, 1), false);
            due("strand 5 of 5", x.colour(5, 1), false);
            due("colour -1", x.colour(0, -1), false);
            due("colour 10", x.colour(0, 10), false);
            for (int v : FAR) {
                due("strand " + v, x.colour(v, 1), false);
                due("colour " + v, x.colour(0, v), false);
            }
            due("all", seen(x), before);
            due("the last strand", x.colour(4, 0), true);
            due("its colour", x.of(4, 1), 0);
        });
        sentence(4, "with COLOUR 0 .. 9", x -> {
            for (int c = -2; c <= 12; c++) {
                due("colour " + c, x.colour(7, c), c >= 0 && c <= 9);
                due("it is", x.of(7, 1), Math.max(0, Math.min(c, 9)));
            }
        });
        sentence(4, "told by STRANDS", x -> {
            songs(x, "lift 0 to 7;");
            x.sing(0, 1);
            x.colour(0, 6);
            due("the slot where it is", x.at(7, 1), 6);
            due("the slot with its number", x.at(0, 1), 0);
        });
        sentence(4, "SLOTS 0 .. N - 1", x -> {
            for (int n = 4; n <= 16; n++) {
                x.stool(n);
                due("the last strand of " + n, x.colour(n - 1, 9), true);
                due("one more than " + n, x.colour(n, 9), false);
                due("it alone", x.of(n - 2, 1), 0);
                due("it", x.of(n - 1, 1), 9);
            }
        });
    }

    private static void slip() {
        sentence(5, "SLIP is told: true; false if it can't be.", x -> {
            fill(x);
            String before = seen(x);
            due("-1", x.slip(-1), false);
            due("1001", x.slip(1001), false);
            for (int v : FAR) {
                due("slip " + v, x.slip(v), false);
            }
            due("all", seen(x), before);
        });
        sentence(5, "SLIP 0 .. 1000", x -> {
            due("1000", x.slip(1000), true);
            due("1000", x.look(1), 1000);
            due("0", x.slip(0), true);
            due("0", x.look(1), 0);
            due("1", x.slip(1), true);
            due("999", x.slip(999), true);
            due("999", x.look(1), 999);
        });
        sentence(5, "if SLIP is above 0, a DRAW of 1000", x -> {
            songs(x, "swap 0 1;lift 0 to 1;");
            x.sing(0, 1);
            due("no draw with 0", x.look(4), 0);
            x.slip(1);
            x.sing(0, 1);
            due("two draws with 1", x.look(4), (int) (1664525L * 1013904223L + 1013904223L));
        });
        sentence(5, "below SLIP it is not made", x -> {
            for (int slip : new int[] {1, 2, 500, 999, 1000}) {
                RoundStool y = with(4, "swap 0 1;");
                y.slip(slip);
                y.state(stateThatDraws(slip - 1));
                String before = seen(y).replaceAll(" [45]:\\S*", "");
                due("the draw is one below " + slip, y.sing(0, 1), 0);
                due("all but STATE and what can be undone", seen(y).replaceAll(" [45]:\\S*", ""), before);
            }
        });
        sentence(5, "a DRAW of 1000: below SLIP it is not made", x -> {
            songs(x, "swap 0 1;");
            for (int slip : new int[] {1, 2, 500, 999}) {
                x.slip(slip);
                x.state(stateThatDraws(slip));
                due("the draw is just " + slip, x.sing(0, 1), 1);
            }
            x.slip(1000);
            due("with 1000 none is ever made", x.sing(0, 50), 0);
            due("rows", x.look(2), 4);
        });
        sentence(5, "for each lift and swap (also one whose COLOUR is not there)", x -> {
            songs(x, "swap 0 1 if 9;", "turn 3;", "lift 2 to 2 if 9;");
            x.slip(500);
            x.sing(0, 1);
            due("a swap that finds no colour", x.look(4), 1013904223);
            x.sing(1, 5);
            due("no draw for turns", x.look(4), 1013904223);
            x.state(0);
            x.sing(2, 1);
            due("a lift that finds no colour", x.look(4), 1013904223);
        });
        sentence(5, "no SLIPS", x -> {
            songs(x, "lift 0 to 3;");
            x.slip(1000);
            due("a turn does not slip", tell(x, 1, "turn 1;"), 1);
            x.sing(1, 1);
            due("turned", x.at(1, 0), 0);
            due("in thought all are made", x.where(0, 7, 1, false), 3);
            due("no draw", x.look(4), 0);
        });
    }

    private static void sing() {
        sentence(10, "A SONG is sung n (1 .. 50) times: how many lifts and swaps were made.", x -> {
            songs(x, "lift 0 to 3;turn 1;swap 0 1 if 9;swap 2 2;");
            due("0", x.sing(0, 0), NONE);
            due("51", x.sing(0, 51), NONE);
            due("-1", x.sing(0, -1), NONE);
            for (int n : FAR) {
                due("sing " + n, x.sing(0, n), NONE);
            }
            due("nothing was sung", x.look(3), 0);
            due("1", x.sing(0, 1), 2);
            due("50", x.sing(0, 50), 100);
            due("SUNG", x.look(3), 102);
        });
        sentence(10, "NONE if one can't be.", x -> {
            fill(x);
            String before = seen(x);
            due("song -1", x.sing(-1, 1), NONE);
            due("song 4", x.sing(4, 1), NONE);
            for (int song : FAR) {
                due("song " + song, x.sing(song, 1), NONE);
            }
            due("0 times", x.sing(0, 0), NONE);
            due("51 times", x.sing(0, 51), NONE);
            due("all", seen(x), before);
            due("song 3 can be", x.sing(3, 1) >= 0, true);
        });
        sentence(10, "SINGING a SONG: its MOVES one after the other", x -> {
            songs(x, "", "times 9()", "times 2(lift 0 to 1;times 2(turn 1;))");
            due("an empty one", x.sing(0, 50), 0);
            due("one that repeats nothing", x.sing(1, 50), 0);
            due("nothing is moved", x.at(0, 0), 0);
            due("repetitions", x.sing(2, 1), 2);
            strands("in their order", x, 4, 5, 7, 6, 1, 0, 2, 3);
        });
        sentence(10, "SUNG: how many lifts and swaps were made.", x -> {
            songs(x, "lift 0 to 0;", "swap 0 1 if 9;", "turn 1;");
            x.sing(1, 50);
            x.sing(2, 50);
            due("none was made", x.look(3), 0);
            for (int i = 0; i < 7; i++) {
                x.sing(0, 50);
            }
            due("more than there are rows", x.look(3), 350);
        });
    }

    private static void lifts() {
        sentence(10, "it goes to SLOT b, and each that is at a SLOT between, or at b, goes one SLOT towards a", x -> {
            x.stool(16);
            songs(x, "lift 0 to 15;", "lift 15 to 0;", "lift 7 to 8;", "lift 8 to 7;");
            x.sing(0, 1);
            strands("from the first to the last", x, 1, 2, 3, 4, 5, 6, 7, 8, 9, 10, 11, 12, 13, 14, 15, 0);
            x.undo();
            x.sing(1, 1);
            strands("from the last to the first", x, 15, 0, 1, 2, 3, 4, 5, 6, 7, 8, 9, 10, 11, 12, 13, 14);
            x.undo();
            x.sing(2, 1);
            strands("to the next", x, 0, 1, 2, 3, 4, 5, 6, 8, 7, 9, 10, 11, 12, 13, 14, 15);
            due("over", x.over(7, 8), 1);
            x.undo();
            x.sing(3, 1);
            strands("to the one before", x, 0, 1, 2, 3, 4, 5, 6, 8, 7, 9, 10, 11, 12, 13, 14, 15);
            due("over", x.over(8, 7), 1);
        });
        sentence(10, "towards a", x -> {
            x.stool(4);
            songs(x, "lift 0 to 3;", "lift 3 to 0;", "lift 1 to 2;");
            x.sing(0, 1);
            strands("up", x, 1, 2, 3, 0);
            x.sing(1, 2);
            strands("down twice", x, 3, 0, 1, 2);
            x.sing(2, 1);
            strands("within", x, 3, 1, 0, 2);
        });
        sentence(10, "(a is b: it is lifted, nothing else)", x -> {
            x.stool(4);
            colours(x, 1, 2, 3, 4);
            songs(x, "lift 0 to 0;", "lift 3 to 3 if 4;", "lift 3 to 3 if 5;");
            due("made", x.sing(0, 1), 1);
            due("made with its colour", x.sing(1, 1), 1);
            due("not made without it", x.sing(2, 1), 0);
            strands("nobody goes", x, 0, 1, 2, 3);
            due("it is lifted", x.of(0, 2), 1);
            due("it is lifted", x.of(3, 2), 1);
            due("rows", x.look(2), 2);
            due("row 1", x.outside(1, 0), 3);
            due("nobody is over", x.over(0, 1) + x.over(0, 3) + x.over(3, 0) + x.over(3, 2), 0);
        });
        sentence(10, "if the STRAND at a has the COLOUR (if one is asked)", x -> {
            songs(x, "lift 1 to 2 if 0;", "lift 0 to 7 if 9;", "lift 7 to 0 if 9;");
            due("colour 0 is one", x.sing(0, 1), 1);
            x.colour(2, 1);
            due("that at 1 has it no more", x.sing(0, 1), 0);
            due("nobody has it", x.sing(1, 1), 0);
            x.colour(7, 9);
            due("that at b is not asked", x.sing(1, 1), 0);
            due("that at a is", x.sing(2, 1), 1);
            due("as it is then, not at first", x.sing(1, 1), 1);
        });
    }

    private static void swapsAndTurns() {
        sentence(10, "that at a (if it has the COLOUR) and that at b change places", x -> {
            x.stool(16);
            x.colour(0, 9);
            songs(x, "swap 0 15;", "swap 15 0 if 9;", "swap 0 15 if 9;", "swap 15 0;");
            due("that at b has it alone", x.sing(1, 1), 0);
            due("that at a has it", x.sing(2, 1), 1);
            strands("the ends", x, 15, 1, 2, 3, 4, 5, 6, 7, 8, 9, 10, 11, 12, 13, 14, 0);
            due("and now the other way", x.sing(1, 1), 1);
            strands("back", x, 0, 1, 2, 3, 4, 5, 6, 7, 8, 9, 10, 11, 12, 13, 14, 15);
            due("not asked", x.sing(0, 1) + x.sing(3, 1), 2);
        });
        sentence(10, "(a is b: likewise nothing else)", x -> {
            x.stool(4);
            songs(x, "swap 3 3;", "swap 0 0 if 1;");
            due("made", x.sing(0, 1), 1);
            due("without its colour", x.sing(1, 1), 0);
            strands("nobody goes", x, 0, 1, 2, 3);
            due("moved", x.of(3, 2), 1);
            due("rows", x.look(2), 1);
            due("nobody is over", x.over(3, 0) + x.over(3, 1) + x.over(3, 2), 0);
        });
        sentence(10, "turn k: each goes from SLOT s to (s + k) modulo N", x -> {
            for (int n = 4; n <= 16; n++) {
                x.stool(n);
                for (int k : new int[] {0, 1, n - 1, Math.min(n, 15), 15}) {
                    tell(x, 0, "turn " + k + ";");
                    x.sing(0, 1);
                    due("turn " + k + " of " + n, x.of(0, 0), k % n);
                    due("the last, turn " + k + " of " + n, x.of(n - 1, 0), (n - 1 + k) % n);
                    x.undo();
                }
            }
        });
        sentence(10, "no row, nobody OVER", x -> {
            x.stool(4);
            songs(x, "turn 1;");
            due("none is made", x.sing(0, 3), 0);
            strands("turned", x, 1, 2, 3, 0);
            due("rows", x.look(2), 0);
            due("sung", x.look(3), 0);
            for (int s = 0; s < 4; s++) {
                due("moved", x.of(s, 2), 0);
                due("over", x.over(s, (s + 1) % 4) + x.over(s, (s + 2) % 4) + x.over(s, (s + 3) % 4), 0);
            }
        });
        sentence(10, "A lift or swap that is made adds a row.", x -> {
            songs(x, "lift 0 to 2;swap 0 1;", "lift 0 to 2 if 9;swap 0 1 if 9;");
            x.sing(1, 1);
            due("none was made", x.look(2), 0);
            x.sing(0, 1);
            due("two were", x.look(2), 2);
            x.slip(1000);
            x.sing(0, 1);
            due("none was made", x.look(2), 2);
        });
    }

    private static void slots() {
        sentence(11, "Of a SLOT what 0 the STRAND, 1 its COLOUR.", x -> {
            x.stool(4);
            colours(x, 1, 2, 3, 9);
            songs(x, "lift 3 to 0;");
            x.sing(0, 1);
            due("the first", x.at(0, 0), 3);
            due("its colour", x.at(0, 1), 9);
            due("the last", x.at(3, 0), 2);
            due("its colour", x.at(3, 1), 3);
        });
        sentence(11, "NONE if there is none such, or another what.", x -> {
            for (int n = 4; n <= 16; n += 4) {
                x.stool(n);
                due("slot " + n, x.at(n, 0), NONE);
                due("slot " + n, x.at(n, 1), NONE);
                due("slot -1", x.at(-1, 0), NONE);
                due("slot -1", x.at(-1, 1), NONE);
                due("the last slot", x.at(n - 1, 0), n - 1);
            }
            due("what 2", x.at(0, 2), NONE);
            due("what -1", x.at(0, -1), NONE);
            for (int v : FAR) {
                due("slot " + v, x.at(v, 0), NONE);
                due("what " + v, x.at(0, v), NONE);
            }
        });
        sentence(12, "Of a STRAND what 0 its SLOT, 1 COLOUR, 2 how often it was moved by lift or swap as the one at a.", x -> {
            x.stool(4);
            colours(x, 1, 2, 3, 9);
            songs(x, "lift 3 to 0;swap 1 0;lift 2 to 2;swap 3 3;turn 1;");
            x.sing(0, 1);
            due("slot of the first", x.of(0, 0), 1);
            due("slot of the last", x.of(3, 0), 2);
            due("colour of the last", x.of(3, 1), 9);
            due("3 was lifted, and swapped as the other one", x.of(3, 2), 1);
            due("0 was swapped", x.of(0, 2), 1);
            due("1 was lifted in its place", x.of(1, 2), 1);
            due("2 was swapped in its place", x.of(2, 2), 1);
        });
        sentence(12, "NONE if there is none such, or another what.", x -> {
            for (int n = 4; n <= 16; n += 4) {
                x.stool(n);
                for (int what = 0; what < 3; what++) {
                    due("strand " + n, x.of(n, what), NONE);
                    due("strand -1", x.of(-1, what), NONE);
                    due("the last strand", x.of(n - 1, what), what == 0 ? n - 1 : 0);
                }
            }
            due("what 3", x.of(0, 3), NONE);
            due("what -1", x.of(0, -1), NONE);
            for (int v : FAR) {
                due("strand " + v, x.of(v, 0), NONE);
                due("what " + v, x.of(0, v), NONE);
            }
        });
    }

    private static void over() {
        sentence(13, "OVER of two unlike STRANDS; NONE if one can't be.", x -> {
            for (int n = 4; n <= 16; n += 6) {
                x.stool(n);
                due("alike, the first", x.over(0, 0), NONE);
                due("alike, the last", x.over(n - 1, n - 1), NONE);
                due("the first and the last", x.over(0, n - 1), 0);
                due("the last and the first", x.over(n - 1, 0), 0);
                due("one that is not", x.over(n, 0), NONE);
                due("one that is not", x.over(0, n), NONE);
                due("-1", x.over(-1, 0), NONE);
                due("-1", x.over(0, -1), NONE);
                due("two that are not", x.over(n, n + 1), NONE);
            }
            for (int v : FAR) {
                due("over " + v, x.over(v, 0), NONE);
                due("over 0 and " + v, x.over(0, v), NONE);
            }
        });
        sentence(13, "it is OVER each of these once more", x -> {
            x.stool(16);
            songs(x, "lift 0 to 15;", "lift 15 to 0;", "lift 3 to 5;");
            x.sing(0, 1);
            for (int s = 1; s < 16; s++) {
                due("0 over " + s, x.over(0, s), 1);
                due(s + " over 0", x.over(s, 0), 0);
            }
            x.sing(1, 1);
            due("once more", x.over(0, 1) + x.over(0, 15), 4);
            x.sing(2, 1);
            due("that at b", x.over(3, 5), 1);
            due("that between", x.over(3, 4), 1);
            due("that before a", x.over(3, 2), 0);
            due("that behind b", x.over(3, 6), 0);
        });
        sentence(13, "that which was at a being OVER the other one once more", x -> {
            x.stool(16);
            songs(x, "swap 0 15;", "swap 15 0;");
            x.sing(0, 1);
            due("that at a", x.over(0, 15), 1);
            due("that at b", x.over(15, 0), 0);
            due("that between", x.over(0, 7), 0);
            x.sing(1, 1);
            due("it is at a again", x.over(0, 15), 2);
            x.sing(1, 1);
            due("now the other one was", x.over(15, 0), 1);
        });
    }

    private static void outside() {
        sentence(14, "rows (300 at most; no more then)", x -> {
            x.stool(4);
            songs(x, "times 7(lift 0 to 3;)", "swap 1 1;", "times 4(swap 2 2;)");
            x.sing(0, 42);
            due("294", x.look(2), 294);
            x.sing(1, 5);
            due("299", x.look(2), 299);
            due("no row 299 yet", x.outside(299, 0), NONE);
            x.sing(2, 1);
            due("300, within one singing", x.look(2), 300);
            due("the last row is the first of these", x.outside(299, 0), x.at(2, 0));
            due("no row 300", x.outside(300, 0), NONE);
            due("all were made", x.look(3), 303);
            x.sing(0, 50);
            due("no more", x.look(2), 300);
            due("row 0 stays", x.outside(0, 0), 0);
            due("row 299 stays", x.outside(299, 0), 0);
            due("moved all the same", x.of(0, 2) + x.of(1, 2) + x.of(2, 2) + x.of(3, 2), 653);
        });
        sentence(14, "which STRAND was moved, its COLOUR then", x -> {
            songs(x, "lift 0 to 7;", "swap 7 0;");
            x.colour(0, 9);
            x.sing(0, 1);
            x.colour(0, 4);
            x.sing(1, 1);
            due("the strand", x.outside(0, 0), 0);
            due("as it was then", x.outside(0, 1), 9);
            due("the strand at a", x.outside(1, 0), 0);
            due("as it is now", x.outside(1, 1), 4);
        });
        sentence(14, "NONE if there is none such, or another what.", x -> {
            due("no rows", x.outside(0, 0), NONE);
            due("no rows", x.outside(0, 1), NONE);
            songs(x, "lift 7 to 0;");
            x.colour(7, 5);
            x.sing(0, 1);
            due("row 0", x.outside(0, 0), 7);
            due("row 0", x.outside(0, 1), 5);
            due("row 1", x.outside(1, 0), NONE);
            due("row 1", x.outside(1, 1), NONE);
            due("row -1", x.outside(-1, 0), NONE);
            due("what 2", x.outside(0, 2), NONE);
            due("what -1", x.outside(0, -1), NONE);
            for (int v : FAR) {
                due("row " + v, x.outside(v, 0), NONE);
                due("what " + v, x.outside(0, v), NONE);
            }
        });
        sentence(14, "Row i of THE OUTSIDE what 0 the STRAND, 1 the COLOUR.", x -> {
            x.stool(16);
            x.colour(15, 9);
            songs(x, "lift 15 to 15;");
            x.sing(0, 50);
            due("the last strand", x.outside(49, 0), 15);
            due("the last colour", x.outside(49, 1), 9);
            due("behind the last row", x.outside(50, 0), NONE);
        });
    }
}
