/** The boundary cases of promises 28 to 30: singings undone, the image, and look. */
abstract class BoundaryBack extends Sentences {

    static void all() {
        undo();
        undoAll();
        forgets();
        image();
        imageKeeps();
        look();
    }

    private static void undo() {
        sentence(28, "UNDO: true; false if there is nothing.", x -> {
            due("nothing at first", x.undo(), false);
            songs(x, "swap 0 1;");
            due("nothing but a text", x.undo(), false);
            x.sing(0, 1);
            due("one", x.undo(), true);
            due("undone", x.at(0, 0), 0);
            String before = seen(x);
            due("no more", x.undo(), false);
            due("all", seen(x), before);
        });
        sentence(28, "6 are kept", x -> {
            songs(x, "lift 0 to 7;");
            for (int i = 1; i <= 8; i++) {
                x.sing(0, 1);
                due("behind " + i, x.look(5), Math.min(i, 6));
            }
            for (int i = 6; i > 0; i--) {
                due("undone", x.undo(), true);
                due("left", x.look(5), i - 1);
                due("sung", x.look(3), i + 1);
            }
            due("no seventh", x.undo(), false);
            due("two stay sung", x.at(0, 0), 2);
            x.sing(0, 3);
            due("kept again", x.look(5), 3);
        });
        sentence(28, "the latest singing not undone yet goes back (each of n by itself; STATE, too)", x -> {
            songs(x, "lift 0 to 7;turn 0;", "turn 3;");
            x.sing(0, 50);
            due("six of fifty", x.look(5), 6);
            due("the last of them", x.undo(), true);
            due("sung", x.look(3), 49);
            due("where", x.at(0, 0), 49 % 8);
            x.sing(1, 1);
            due("the latest again", x.undo(), true);
            due("where", x.at(0, 0), 49 % 8);
            due("then the one before", x.undo(), true);
            due("sung", x.look(3), 48);
            due("four are left", x.look(5), 4);
        });
    }

    private static void undoAll() {
        sentence(28, "STATE, too", x -> {
            songs(x, "swap 0 1;");
            x.slip(1000);
            x.sing(0, 3);
            int thrice = x.look(4);
            x.undo();
            x.undo();
            due("behind one draw", x.look(4), 1013904223);
            x.undo();
            due("as at first", x.look(4), 0);
            x.sing(0, 3);
            due("the same draws again", x.look(4), thrice);
        });
        sentence(28, "goes back", x -> {
            x.stool(4);
            colours(x, 1, 2, 3, 4);
            songs(x, "lift 0 to 3;swap 1 2;lift 0 to 1 if 4;turn 1;");
            x.slip(300);
            x.state(99);
            x.sing(0, 2);
            String before = seen(x).replaceAll(" 5:\\S*", "");
            x.sing(0, 3);
            due("undone thrice", x.undo() && x.undo() && x.undo(), true);
            due("all", seen(x).replaceAll(" 5:\\S*", ""), before);
        });
        sentence(28, "the latest singing not undone yet", x -> {
            x.stool(4);
            songs(x, "times 7(swap 0 0;)", "swap 1 1;", "swap 2 2;");
            x.sing(0, 42);
            x.sing(0, 1);
            due("full", x.look(2), 300);
            x.undo();
            due("294 rows again", x.look(2), 294);
            due("no row 294", x.outside(294, 0), NONE);
            x.sing(1, 6);
            due("300", x.look(2), 300);
            x.sing(2, 1);
            due("one that made no row", x.undo(), true);
            due("300", x.look(2), 300);
            due("its strand", x.outside(299, 0), 1);
            due("another undone", x.undo(), true);
            x.sing(2, 1);
            due("the last row anew", x.outside(299, 0), 2);
            due("the one before stays", x.outside(298, 0), 1);
        });
        sentence(28, "each of n by itself", x -> {
            songs(x, "", "swap 0 1 if 9;");
            x.sing(0, 2);
            x.sing(1, 2);
            due("also those that made nothing", x.look(5), 4);
            due("undone", x.undo() && x.undo() && x.undo() && x.undo(), true);
            due("no more", x.undo(), false);
            x.sing(0, 0);
            x.sing(4, 1);
            due("not those that can't be", x.look(5), 0);
        });
    }

    private static RoundStool sungOnce() {
        RoundStool x = with(5, "turn 1;");
        x.sing(0, 1);
        return x;
    }

    private static void forgets() {
        sentence(28, "whatever else is told", x -> {
            RoundStool y = sungOnce();
            y.state(0);
            due("the same STATE", y.look(5), 0);
            due("nothing", y.undo(), false);
            due("the singing stays", y.at(1, 0), 0);
            y = sungOnce();
            y.slip(0);
            due("the same SLIP", y.undo(), false);
            y = sungOnce();
            y.colour(0, 0);
            due("the same COLOUR", y.undo(), false);
            y = sungOnce();
            y.stool(5);
            due("the same N", y.undo(), false);
        });
        sentence(28, "but texts, WANT, the NAME forgets them", x -> {
            RoundStool y = sungOnce();
            y.feed(0x7475726E, 0x20323B20, 0x20202020, 0x20202020, 0x20202020);
            y.end(7);
            y.text(0);
            y.text(4);
            tell(y, 1, "(");
            due("texts", y.look(5), 1);
            y.want(0, 5);
            due("WANT", y.look(5), 1);
            y.name(0, 5);
            y.name(1, NONE);
            due("the NAME", y.look(5), 1);
            due("undone", y.undo(), true);
            due("by the turn as it was", y.at(0, 0), 0);
            due("the text stays", y.where(0, 0, 1, false), 2);
            due("WANT stays", y.look(20), 5);
            due("the NAME stays", y.look(40), 5);
        });
        sentence(28, "whatever else is told but texts, WANT, the NAME forgets them", x -> {
            RoundStool y = sungOnce();
            y.stool(3);
            y.stool(17);
            y.colour(5, 0);
            y.colour(0, 10);
            y.slip(1001);
            y.slip(-1);
            y.image(false);
            due("what can't be told forgets nothing", y.look(5), 1);
            y.back(0, 0);
            y.where(0, 0, 5, true);
            y.fewest(0);
            y.cut(0);
            y.dropped(0, 3, 0);
            y.beats(0, 1);
            y.lay(0);
            y.pulled(NONE);
            y.loops(NONE);
            y.alike(0, 0);
            y.period(0);
            due("nor do thoughts", y.look(5), 1);
            due("undone", y.undo(), true);
        });
    }

    private static void image() {
        sentence(29, "THE IMAGE is taken (true), or gone back to (false): true; false if there is none.", x -> {
            BoundaryStool.fill(x);
            String before = seen(x);
            due("none yet", x.image(false), false);
            due("all", seen(x), before);
            due("taken", x.image(true), true);
            due("all", seen(x), before);
            due("gone back to", x.image(false), true);
        });
        sentence(29, "gone back to it may be more than once", x -> {
            x.stool(4);
            songs(x, "lift 0 to 3;");
            x.image(true);
            String before = seen(x);
            for (int i = 0; i < 2; i++) {
                x.sing(0, 3);
                tell(x, 0, "");
                due("gone back to", x.image(false), true);
                due("all", seen(x), before);
            }
            x.stool(16);
            due("gone back to", x.image(false), true);
            due("all", seen(x), before);
        });
        sentence(29, "as it was when it was taken", x -> {
            songs(x, "swap 0 1;");
            x.image(true);
            x.sing(0, 1);
            x.image(true);
            x.sing(0, 1);
            x.image(false);
            due("the latest one", x.at(0, 0), 1);
            x.stool(16);
            x.image(true);
            x.stool(4);
            x.image(false);
            due("a greater stool", x.look(0), 16);
            due("its last strand", x.at(15, 0), 15);
            due("no song", x.look(10), 0);
        });
    }

    private static void imageKeeps() {
        sentence(29, "THE IMAGE: all that is and was told", x -> {
            BoundaryStool.fill(x);
            x.slip(401);
            x.image(true);
            String before = seen(x);
            x.sing(0, 3);
            x.stool(5);
            colours(x, 9, 9, 9, 9, 9);
            wants(x, 3, 3, 3, 3, 3);
            songs(x, "turn 1;", "turn 1;turn 1;", "turn 1;turn 1;turn 1;", "");
            for (int i = 0; i < 30; i++) {
                x.name(i, 9);
            }
            x.state(-1);
            x.slip(0);
            tell(x, 3, "times 3(swap 4 4;swap 2 2;)");
            x.sing(3, 1);
            due("gone back to", x.image(false), true);
            due("all", seen(x), before);
            RoundStool y = new RoundStool();
            BoundaryStool.fill(y);
            y.slip(401);
            due("and all goes on from it", x.sing(0, 5), y.sing(0, 5));
            due("alike", seen(x), seen(y));
        });
        sentence(29, "but the TAPE, fault() and what can be undone (nothing then)", x -> {
            songs(x, "swap 0 1;");
            tape(x, "turn 1;");
            x.sing(0, 2);
            x.image(true);
            due("taking forgets nothing", x.look(5), 2);
            due("nor the tape", x.end(8), false);
            x.text(1);
            tell(x, 1, "turn 16;");
            tape(x, "turn 1;turn 1;");
            due("gone back to", x.image(false), true);
            due("nothing can be undone", x.look(5), 0);
            due("nothing", x.undo(), false);
            due("the tape is as it is now", x.end(14), true);
            due("fault() tells of the latest text", x.fault(0), 2);
            due("its place", x.fault(1), 5);
            due("the tape", x.text(0), 2);
        });
    }

    private static void look() {
        sentence(30, "What 0 N, 1 SLIP, 2 rows of THE OUTSIDE, 3 SUNG, 4 STATE, 5 what can be undone", x -> {
            x.stool(16);
            songs(x, "lift 0 to 15;");
            x.slip(1);
            x.state(Integer.MIN_VALUE);
            x.sing(0, 7);
            due("N", x.look(0), 16);
            due("SLIP", x.look(1), 1);
            due("rows", x.look(2), 7);
            due("SUNG", x.look(3), 7);
            int state = Integer.MIN_VALUE;
            for (int i = 0; i < 7; i++) {
                state = (int) (1664525L * state + 1013904223L);
            }
            due("STATE", x.look(4), state);
            due("undo", x.look(5), 6);
        });
        sentence(30, "10 + k MOVES of SONG k", x -> {
            songs(x, "turn 1;", "times 2(turn 1;)", "times 3(turn 1;)", "times 5(times 5(times 8(turn 1;)))");
            due("song 0", x.look(10), 1);
            due("song 1", x.look(11), 2);
            due("song 2", x.look(12), 3);
            due("song 3", x.look(13), 200);
            due("no song -1", x.look(9), NONE);
            due("no song 4", x.look(14), NONE);
        });
        sentence(30, "20 + s WANT of SLOT s", x -> {
            for (int n = 4; n <= 16; n++) {
                x.stool(n);
                for (int s = 0; s < n; s++) {
                    x.want(s, (s + 1) % 10);
                }
                due("the first", x.look(20), 1);
                due("the last of " + n, x.look(20 + n - 1), n % 10);
                due("none behind it", x.look(20 + n), NONE);
                due("none before the first", x.look(19), NONE);
            }
        });
        sentence(30, "40 + i row i of the NAME (NONE: none)", x -> {
            x.name(0, 0);
            x.name(29, 9);
            due("none before the first", x.look(39), NONE);
            due("the first", x.look(40), 0);
            due("none told", x.look(41), NONE);
            due("none told", x.look(68), NONE);
            due("the last", x.look(69), 9);
            due("none behind it", x.look(70), NONE);
        });
        sentence(30, "NONE for another what.", x -> {
            x.stool(16);
            for (int s = 0; s < 16; s++) {
                x.want(s, 9);
            }
            for (int i = 0; i < 30; i++) {
                x.name(i, 9);
            }
            for (int what = -50; what <= 120; what++) {
                boolean isThere = what >= 0 && what <= 5 || what >= 10 && what <= 13 || what >= 20 && what <= 35 || what >= 40 && what <= 69;
                due("look " + what, x.look(what) != NONE, isThere);
            }
            for (int what : FAR) {
                due("look " + what, x.look(what), NONE);
            }
        });
    }
}
