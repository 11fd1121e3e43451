/** Each promise of the document by its number: ordinary inputs, the edges it names, and wrong inputs. */
public final class PromiseTest extends Checks {

    public static void main(String[] args) {
        newObject();
        state();
        stool();
        colour();
        slip();
        feed();
        end();
        text();
        fullTapes();
        fault();
        sing();
        singSlipping();
        at();
        of();
        over();
        outside();
        back();
        where();
        want();
        fewest();
        cut();
        dropped();
        beats();
        name();
        lay();
        pulled();
        loops();
        alike();
        period();
        undo();
        image();
        look();
        finish("PromiseTest");
    }

    // ---- helpers

    private static void promise(int number) {
        about("promise " + number);
    }

    private static void faulty(String text, int kind, int place) {
        faulty(new RoundStool(), text, kind, place);
    }

    private static void moves(String text, int count) {
        moves(new RoundStool(), text, count);
    }

    // ---- the promises

    private static void newObject() {
        promise(1);
        RoundStool x = new RoundStool();
        for (int s = 0; s < 8; s++) {
            due("strand at " + s, x.at(s, 0), s);
            due("colour at " + s, x.at(s, 1), 0);
            due("want", x.look(20 + s), 0);
        }
        due("at 8", x.at(8, 0), NONE);
        for (int what = 1; what <= 5; what++) {
            due("look " + what, x.look(what), 0);
        }
        for (int k = 0; k < 4; k++) {
            due("moves of " + k, x.look(10 + k), 0);
        }
        for (int i = 0; i < 30; i++) {
            due("name " + i, x.look(40 + i), NONE);
        }
        due("fault", x.fault(0), 0);
        due("place", x.fault(1), NONE);
        due("undo", x.undo(), false);
        due("image", x.image(false), false);
    }

    private static void state() {
        promise(2);
        RoundStool x = with(8, "swap 0 1;");
        due("first", x.state(7), 0);
        due("second", x.state(-5), 7);
        due("third", x.state(Integer.MIN_VALUE), -5);
        due("look", x.look(4), Integer.MIN_VALUE);
        x.sing(0, 1);
        due("no draw without slip", x.look(4), Integer.MIN_VALUE);
        x.state(1);
        due("undo is forgotten", x.undo(), false);
    }

    private static void stool() {
        promise(3);
        RoundStool x = with(8, "swap 0 1;", "turn 2;");
        x.state(9);
        colours(x, 1, 2, 3);
        x.want(2, 3);
        x.name(4, 5);
        x.slip(1);
        x.state(9);
        x.sing(0, 1);
        int state = x.look(4);
        due("3", x.stool(3), false);
        due("17", x.stool(17), false);
        due("-1", x.stool(-1), false);
        due("least int", x.stool(Integer.MIN_VALUE), false);
        due("rows stay", x.look(2), 1);
        due("undo stays", x.look(5), 1);
        faultyOn(x);
        tape(x, "turn 1;");
        x.image(true);
        due("16", x.stool(16), true);
        due("N", x.look(0), 16);
        strands("home", x, 0, 1, 2, 3, 4, 5, 6, 7, 8, 9, 10, 11, 12, 13, 14, 15);
        due("colour", x.of(1, 1), 0);
        due("moved", x.of(0, 2), 0);
        due("over", x.over(0, 1), 0);
        due("want", x.look(22), 0);
        due("name", x.look(44), NONE);
        due("slip", x.look(1), 0);
        due("rows", x.look(2), 0);
        due("sung", x.look(3), 0);
        due("state stays", x.look(4), state);
        due("undo", x.look(5), 0);
        due("song 0", x.look(10), 0);
        due("song 1", x.look(11), 0);
        due("fault stays", x.fault(0), 1);
        due("tape stays", x.feed(0, 0, 0, 0, 0), 27);
        due("image stays", x.image(false), true);
        due("N of it", x.look(0), 8);
        due("4", x.stool(4), true);
        due("at 4", x.at(4, 0), NONE);
        due("told anew with the same N", x.stool(4), true);
    }

    private static void faultyOn(RoundStool x) {
        due("a fault", tell(x, 0, "("), NONE);
    }

    private static void colour() {
        promise(4);
        RoundStool x = with(5, "lift 0 to 4;");
        due("9", x.colour(4, 9), true);
        due("by strand", x.of(4, 1), 9);
        due("0", x.colour(0, 3), true);
        x.sing(0, 1);
        due("it goes with its strand", x.at(4, 1), 3);
        due("and is told by strands", x.colour(5, 1), false);
        due("strand -1", x.colour(-1, 1), false);
        due("colour -1", x.colour(0, -1), false);
        due("colour 10", x.colour(0, 10), false);
        due("undo stays", x.look(5), 1);
        due("the same once more", x.colour(0, 3), true);
        due("undo forgotten", x.look(5), 0);
        due("row keeps its colour", x.outside(0, 1), 3);
        x.colour(0, 4);
        due("row keeps its colour then", x.outside(0, 1), 3);
        x.stool(16);
        for (int s = 0; s < 16; s++) {
            due("of sixteen", x.colour(s, (s * 7) % 10), true);
        }
        for (int s = 0; s < 16; s++) {
            due("of sixteen", x.at(s, 1), (s * 7) % 10);
        }
    }

    private static void slip() {
        promise(5);
        RoundStool x = with(8, "swap 0 1;");
        due("1000", x.slip(1000), true);
        due("look", x.look(1), 1000);
        due("nothing is made", x.sing(0, 10), 0);
        due("1001", x.slip(1001), false);
        due("-1", x.slip(-1), false);
        due("look", x.look(1), 1000);
        due("undo stays", x.look(5), 6);
        due("0", x.slip(0), true);
        due("undo forgotten", x.look(5), 0);
        due("all is made", x.sing(0, 10), 10);
    }

    private static void feed() {
        promise(6);
        RoundStool x = new RoundStool();
        for (int i = 1; i <= 20; i++) {
            due("feed " + i, x.feed(0x20202020, 0x0A0A0A0A, 0x20202020, 0x20202020, 0x20202020), 20 * i);
        }
        due("the 401st", x.feed(0, 0, 0, 0, 0), NONE);
        due("nothing came", x.end(400), true);
        due("381", x.end(381), true);
        due("381 and 20", x.feed(0, 0, 0, 0, 0), NONE);
        due("380", x.end(380), true);
        due("380 and 20", x.feed(0x73776170, 0x20302031, 0x3B202020, 0x20202020, 0x20202020), 400);
        due("text of 400", x.text(0), 1);
        due("empty", x.feed(0x7475726E, 0x2031353B, 0x74696D65, 0x7320393B, -1), 20);
        due("text", x.text(1), NONE);
        due("highest first", x.fault(1), 15);
    }

    private static void end() {
        promise(7);
        RoundStool x = new RoundStool();
        due("0 of 0", x.end(0), true);
        due("1 of 0", x.end(1), false);
        x.feed(0x7475726E, 0x20313B7A, 0, 0, 0);
        due("-1", x.end(-1), false);
        due("21", x.end(21), false);
        due("20", x.end(20), true);
        due("7", x.end(7), true);
        due("8", x.end(8), false);
        due("text", x.text(0), 1);
        due("0", x.end(0), true);
        due("1", x.end(1), false);
        tape(x, "turn 16;");
        x.end(6);
        due("what is gone is no part of a number", x.text(0), NONE);
        due("its fault", x.fault(0), 1);
        due("its place", x.fault(1), 6);
        tape(x, "turn 1;turnx");
        x.end(11);
        due("nor of a word", x.text(0), NONE);
        due("its place", x.fault(1), 11);
    }

    /** Tapes of 400 bytes: as many tokens as can be, and runs that go up to the last byte. */
    private static void fullTapes() {
        promise(8);
        faulty(";".repeat(400), 1, 0);
        faulty("1".repeat(400), 1, 0);
        faulty("z".repeat(400), 1, 0);
        faulty(" ".repeat(396) + "turn", 1, 400);
        faulty(" ".repeat(394) + "turn 1", 1, 400);
        faulty(" ".repeat(393) + "turn 16", 2, 398);
        moves(" ".repeat(393) + "turn 1;", 1);
        moves("\n".repeat(400), 0);
        moves("times 1()".repeat(44) + "    ", 0);
        moves("turn1;".repeat(66) + "\n\n\n ", 66);
        moves("swap 0 1;".repeat(44) + "    ", 44);
    }

    private static void text() {
        promise(8);
        moves("", 0);
        moves(" \n ", 0);
        moves("lift 0 to 7;", 1);
        moves("lift0to7if9;swap7 0if0;turn15;", 3);
        moves("lift 0000 to\n0007 if 0009 ;", 1);
        moves("times 9()", 0);
        moves("times 2(swap 1 2;times 3(turn 0;)lift 1 to 1;)turn 1;", 11);
        moves("times 1(times 1(times 1(times 1(turn 1;))))times 1(turn 1;)", 2);
        moves("times 5(times 5(times 8(turn 1;)))", 200);
        faulty("times 5(times 5(times 8(turn 1;)))turn 1;", 4, 41);
        faulty("times 9(times 9(times 9(times 9(swap 0 1;))))  ", 4, 47);
        moves("times 9(times 9(times 9(times 9())))", 0);
        RoundStool x = with(8, "swap 0 1;", "swap 0 1;swap 1 2;");
        due("a fault", tell(x, 1, "swap 0 1"), NONE);
        due("the song stays", x.look(11), 2);
        due("the tape is empty", x.feed(0, 0, 0, 0, 0), 20);
        x.end(0);
        due("an empty one", x.text(1), 0);
        due("it is", x.look(11), 0);
        due("song 3", tell(x, 3, "turn 1;"), 1);
        due("song 4", tell(x, 4, "turn 1;"), NONE);
        due("its fault", x.fault(0), 0);
        due("song -1", tell(x, -1, "turn"), NONE);
        due("its fault", x.fault(0), 0);
        due("its place", x.fault(1), NONE);
        x.sing(0, 1);
        due("undo stays", tell(x, 0, "turn 1;"), 1);
        due("undo stays", x.look(5), 1);
        x.stool(4);
        due("slots there are", tell(x, 0, "swap 0 3;"), 1);
        due("slots there are not", tell(x, 0, "swap 0 4;"), NONE);
        due("beyond", x.fault(0), 2);
        due("a turn beyond N", tell(x, 0, "turn 15;"), 1);
    }

    private static void fault() {
        promise(9);
        faulty("lyft 0 to 1;", 1, 0);
        faulty("lifto 1;", 1, 0);
        faulty("liftX 0 to 1;", 1, 0);
        faulty("LIFT 0 to 1;", 1, 0);
        for (String letter : new String[] {"a", "z", "A", "Z"}) {
            faulty("turn" + letter + " 1;", 1, 0);
        }
        for (String sign : new String[] {"@", "[", "`", "{", "/", ":", "-", "\0", "\u00ff"}) {
            faulty("turn" + sign + "1;", 1, 4);
            faulty("turn 1" + sign + ";", 1, 6);
        }
        faulty("turn 1a;", 1, 6);
        faulty(" ;", 1, 1);
        faulty("5", 1, 0);
        faulty("to", 1, 0);
        faulty("if", 1, 0);
        faulty("(", 1, 0);
        faulty(")", 1, 0);
        faulty("turn 1;)", 1, 7);
        faulty("turn 1;\t", 1, 7);
        faulty("turn 1;\r", 1, 7);
        faulty("turn 1;\0", 1, 7);
        faulty("turn 1;\u00e9", 1, 7);
        faulty("turn 00001;", 1, 5);
        faulty("turn 99999;", 1, 5);
        faulty("turn 9999;", 2, 5);
        faulty("turn 16;", 2, 5);
        faulty("turn 1 if 0;", 1, 7);
        faulty("turn 1", 1, 6);
        faulty("turn 1  ", 1, 8);
        faulty("lift 0 1;", 1, 7);
        faulty("lift 8 to 9;", 2, 5);
        faulty("lift 0 to 8;", 2, 10);
        faulty("lift 0 to 1 if 10;", 2, 15);
        faulty("lift 0 to 1 if;", 1, 14);
        faulty("lift 0 to 1 if 1 if 1;", 1, 17);
        faulty("swap 0 to 1;", 1, 7);
        faulty("swap 0 8;", 2, 7);
        faulty("swap 8 0;", 2, 5);
        faulty("swap 0 1 if 10;", 2, 12);
        faulty("times 0(", 2, 6);
        faulty("times 10(", 2, 6);
        faulty("times (", 1, 6);
        faulty("times 2 turn 1;", 1, 8);
        faulty("times 2(turn 1;", 1, 15);
        faulty("times 2(turn 1;);", 1, 16);
        faulty("times 2(turn 1;))", 1, 16);
        faulty("times 1(times 1(times 1(times 1( times x", 3, 33);
        faulty("times 1(times 1(times 1(times 1(lift times", 1, 37);
        faulty("times 9(times 9(times 9(turn 1;)turn 1;)", 1, 40);
        faulty("times 9(times 9(times 9(turn 1;))) x", 1, 35);
        RoundStool x = new RoundStool();
        tell(x, 0, "turn 16;");
        due("fault 2", x.fault(2), NONE);
        due("fault -1", x.fault(-1), NONE);
        due("it stays", x.fault(0), 2);
        tell(x, 0, "turn 15;");
        due("the latest alone", x.fault(0), 0);
        due("its place", x.fault(1), NONE);
    }

    private static void sing() {
        promise(10);
        RoundStool x = with(6, "lift 1 to 4;", "lift 4 to 1;", "turn 1;lift 2 to 2;swap 0 5;", "swap 3 3;lift 0 to 1 if 7;");
        due("song 4", x.sing(4, 1), NONE);
        due("song -1", x.sing(-1, 1), NONE);
        due("0 times", x.sing(0, 0), NONE);
        due("51 times", x.sing(0, 51), NONE);
        due("nothing is undone", x.look(5), 0);
        due("once", x.sing(0, 1), 1);
        strands("lift up", x, 0, 2, 3, 4, 1, 5);
        due("back", x.sing(1, 1), 1);
        strands("lift down", x, 0, 1, 2, 3, 4, 5);
        due("turned", x.sing(2, 1), 2);
        strands("turn and swap", x, 4, 0, 1, 2, 3, 5);
        due("no colour", x.sing(3, 2), 2);
        strands("nothing else", x, 4, 0, 1, 2, 3, 5);
        due("50 times", x.sing(0, 50), 50);
        due("sung", x.look(3), 56);
        x.colour(4, 7);
        due("with the colour", x.sing(3, 1), 2);
        strands("lifted", x, 2, 4);
        x = with(16, "lift 15 to 0;", "lift 0 to 15;", "turn 15;", "swap 0 15;");
        x.sing(0, 1);
        strands("from the last", x, 15, 0, 1, 2, 3, 4, 5, 6, 7, 8, 9, 10, 11, 12, 13, 14);
        x.sing(1, 2);
        strands("to the last", x, 1, 2, 3, 4, 5, 6, 7, 8, 9, 10, 11, 12, 13, 14, 15, 0);
        x.sing(2, 1);
        strands("turn 15", x, 2, 3, 4, 5, 6, 7, 8, 9, 10, 11, 12, 13, 14, 15, 0, 1);
        x.sing(3, 1);
        strands("swap the ends", x, 1, 3, 4, 5, 6, 7, 8, 9, 10, 11, 12, 13, 14, 15, 0, 2);
        x = with(4, "turn 15;", "turn 4;", "turn 0;");
        due("a turn is no lift", x.sing(0, 1), 0);
        strands("turn 15 of 4", x, 1, 2, 3, 0);
        x.sing(1, 1);
        x.sing(2, 1);
        strands("turn 4 of 4", x, 1, 2, 3, 0);
    }

    private static void singSlipping() {
        RoundStool x = with(8, "swap 0 1 if 5;turn 1;lift 0 to 0;");
        x.slip(563);
        due("the first draw is 563", x.sing(0, 1) >= 0, true);
        int once = 1013904223;
        int twice = 1664525 * once + 1013904223;
        due("a draw also without the colour, none for a turn", x.look(4), twice);
        due("by the second draw", x.look(3), (twice >>> 8) % 1000 < 563 ? 0 : 1);
        x = with(8, "swap 0 1;");
        x.slip(563);
        due("563 is not below 563", x.sing(0, 1), 1);
        x.state(0);
        x.slip(1);
        x.sing(0, 1);
        due("drawn from slip 1 on", x.look(4), once);
        x.state(0);
        x.slip(564);
        int rows = x.look(2);
        int over = x.over(x.at(0, 0), x.at(1, 0));
        int moved = x.of(x.at(0, 0), 2);
        due("but below 564", x.sing(0, 1), 0);
        due("not made: no row", x.look(2), rows);
        due("not sung", x.look(3), rows);
        due("nobody over", x.over(x.at(0, 0), x.at(1, 0)), over);
        due("not moved", x.of(x.at(0, 0), 2), moved);
    }

    private static void at() {
        promise(11);
        RoundStool x = with(5, "lift 0 to 4;");
        colours(x, 5, 6, 7, 8, 9);
        x.sing(0, 1);
        due("0", x.at(0, 0), 1);
        due("0", x.at(0, 1), 6);
        due("4", x.at(4, 0), 0);
        due("4", x.at(4, 1), 5);
        due("5", x.at(5, 0), NONE);
        due("-1", x.at(-1, 0), NONE);
        due("what 2", x.at(0, 2), NONE);
        due("what -1", x.at(0, -1), NONE);
    }

    private static void of() {
        promise(12);
        RoundStool x = with(5, "lift 0 to 4;swap 4 1;lift 2 to 2;");
        colours(x, 5, 6, 7, 8, 9);
        x.sing(0, 1);
        strands("all", x, 1, 0, 3, 4, 2);
        due("slot", x.of(0, 0), 1);
        due("slot", x.of(2, 0), 4);
        due("colour", x.of(2, 1), 7);
        due("moved twice", x.of(0, 2), 2);
        due("moved in its place", x.of(3, 2), 1);
        due("as the other one", x.of(2, 2), 0);
        due("5", x.of(5, 0), NONE);
        due("-1", x.of(-1, 2), NONE);
        due("what 3", x.of(0, 3), NONE);
        due("what -1", x.of(0, -1), NONE);
    }

    private static void over() {
        promise(13);
        RoundStool x = with(6, "lift 4 to 1;", "swap 0 5;", "turn 3;", "lift 2 to 2;");
        x.sing(0, 1);
        due("down: 1", x.over(4, 1), 1);
        due("down: 2", x.over(4, 2), 1);
        due("down: 3", x.over(4, 3), 1);
        due("not beyond", x.over(4, 0), 0);
        due("not beyond", x.over(4, 5), 0);
        due("not under", x.over(1, 4), 0);
        x.sing(1, 1);
        due("swap", x.over(0, 5), 1);
        due("not those between", x.over(0, 4), 0);
        due("nor back", x.over(5, 0), 0);
        x.sing(1, 2);
        due("swap 0 5 again", x.over(0, 5), 2);
        due("swap 5 0", x.over(5, 0), 1);
        x.sing(2, 1);
        x.sing(3, 1);
        int all = 0;
        for (int a = 0; a < 6; a++) {
            for (int b = 0; b < 6; b++) {
                all += a == b ? 0 : x.over(a, b);
            }
        }
        due("all", all, 6);
        due("unlike", x.over(2, 2), NONE);
        due("6", x.over(6, 0), NONE);
        due("6", x.over(0, 6), NONE);
        due("-1", x.over(-1, 0), NONE);
        due("-1", x.over(0, -1), NONE);
    }

    private static void outside() {
        promise(14);
        RoundStool x = with(4, "lift 0 to 3;turn 1;swap 2 2;lift 1 to 0 if 9;", "times 8(lift 0 to 3;)");
        colours(x, 5, 6, 7, 8);
        x.sing(0, 1);
        due("rows", x.look(2), 2);
        due("row 0", x.outside(0, 0), 0);
        due("row 0", x.outside(0, 1), 5);
        due("row 1", x.outside(1, 0), 2);
        due("row 1", x.outside(1, 1), 7);
        due("row 2", x.outside(2, 0), NONE);
        due("row -1", x.outside(-1, 0), NONE);
        due("what 2", x.outside(0, 2), NONE);
        due("what -1", x.outside(0, -1), NONE);
        due("many", x.sing(1, 50), 400);
        due("300 rows", x.look(2), 300);
        due("sung", x.look(3), 402);
        due("row 299", x.outside(299, 0) != NONE, true);
        due("row 300", x.outside(300, 0), NONE);
        due("moved all the same", x.of(0, 2) + x.of(1, 2) + x.of(2, 2) + x.of(3, 2), 402);
        for (int i = 0; i < 6; i++) {
            x.undo();
        }
        due("still 300", x.look(2), 300);
        due("sung", x.look(3), 354);
    }

    private static void back() {
        promise(15);
        RoundStool x = with(8, "lift 0 to 3;", "swap 0 1 if 1;", "turn 2;", "");
        due("strands", x.back(0, 0), 4);
        due("colours", x.back(0, 1), 1);
        x.colour(0, 1);
        due("colours", x.back(0, 1), 4);
        due("never", x.back(1, 0), NONE);
        due("never", x.back(1, 1), NONE);
        due("turn", x.back(2, 0), 4);
        due("an empty one", x.back(3, 0), 1);
        due("song 4", x.back(4, 0), NONE);
        due("song -1", x.back(-1, 0), NONE);
        due("what 2", x.back(0, 2), NONE);
        due("what -1", x.back(0, -1), NONE);
        x.sing(1, 1);
        due("from the strands now", x.back(1, 0), 1);
        x.slip(1000);
        due("no slips", x.back(0, 0), 4);
        due("nothing stays", x.look(3), 1);
        x = with(16, "lift 0 to 4;lift 5 to 7;lift 8 to 11;turn 0;", "swap 0 1;lift 2 to 4;lift 5 to 9;lift 10 to 13;");
        due("5 and 3 and 4", x.back(0, 0), 60);
        due("2 and 3 and 5 and 4", x.back(1, 0), 60);
        longBack();
    }

    /** Songs that ask colours may come back late: these behind 63, 5040 and 5050 singings. */
    private static void longBack() {
        RoundStool x = with(16, "lift 0 to 6;lift 7 to 15;", "turn 12;lift 4 to 13 if 3;lift 10 to 14;turn 13;lift 11 to 15;",
            "lift 5 to 13 if 0;turn 2;turn 14;lift 15 to 5;lift 11 to 4;turn 11;");
        colours(x, 1, 0, 0, 0, 0, 0, 0, 2, 0, 0, 0, 0, 0, 0, 0, 0);
        due("7 and 9", x.back(0, 0), 63);
        due("7 and 9", x.back(0, 1), 63);
        colours(x, 3, 0, 0, 0, 0, 2, 3, 1, 0, 1, 2, 1, 2, 0, 1, 0);
        due("5040", x.back(1, 0), 5040);
        colours(x, 1, 2, 2, 1, 0, 2, 0, 1, 0, 2, 1, 0, 2, 1, 2, 1);
        due("5050", x.back(2, 0), NONE);
    }

    private static void where() {
        promise(16);
        RoundStool x = with(8, "lift 0 to 3;", "turn 3;", "lift 0 to 7 if 2;", "swap 0 2;");
        due("0 singings", x.where(0, 5, 0, false), 5);
        due("1", x.where(0, 0, 1, false), 3);
        due("99", x.where(0, 0, 99, false), 1);
        due("mirror", x.where(0, 7, 1, true), 4);
        due("mirror, none of it", x.where(0, 0, 1, true), 0);
        due("turn", x.where(1, 6, 1, false), 1);
        due("mirror turn", x.where(1, 1, 1, true), 6);
        due("no colour", x.where(2, 0, 1, false), 0);
        x.colour(7, 2);
        due("mirror colour", x.where(2, 7, 1, true), 0);
        due("no colour", x.where(2, 0, 1, false), 0);
        due("swap", x.where(3, 2, 1, false), 0);
        due("mirror swap", x.where(3, 5, 1, true), 7);
        x.sing(1, 1);
        due("from the strands now", x.where(0, 5, 1, false), 3);
        due("nothing stays", x.of(5, 0), 0);
        x.slip(1000);
        due("no slips", x.where(0, 5, 1, false), 3);
        due("song 4", x.where(4, 0, 1, false), NONE);
        due("song -1", x.where(-1, 0, 1, false), NONE);
        due("strand 8", x.where(0, 8, 1, false), NONE);
        due("strand -1", x.where(0, -1, 1, true), NONE);
        due("-1 singings", x.where(0, 0, -1, false), NONE);
        due("100 singings", x.where(0, 0, 100, false), NONE);
        x = with(4, "turn 15;", "turn 8;");
        due("turn 15 of 4", x.where(0, 0, 1, false), 3);
        due("mirror 15 of 4", x.where(0, 0, 1, true), 1);
        due("mirror 8 of 4", x.where(1, 2, 1, true), 2);
    }

    private static void want() {
        promise(17);
        RoundStool x = with(5, "swap 0 1;");
        x.sing(0, 1);
        due("9", x.want(4, 9), true);
        due("9", x.look(24), 9);
        due("0", x.want(0, 4), true);
        due("others stay", x.look(24), 9);
        due("slot 5", x.want(5, 0), false);
        due("slot -1", x.want(-1, 0), false);
        due("colour 10", x.want(0, 10), false);
        due("colour -1", x.want(0, -1), false);
        due("it stays", x.look(20), 4);
        due("undo stays", x.undo(), true);
        due("undo leaves it", x.look(24), 9);
    }

    private static void fewest() {
        promise(18);
        RoundStool x = with(7, "lift 0 to 6;");
        due("nothing to do", x.fewest(0), 0);
        due("no first", x.fewest(1), NONE);
        due("no first", x.fewest(2), NONE);
        colours(x, 0, 1, 2, 3, 4, 5, 6);
        due("it can't", x.fewest(0), NONE);
        due("no first", x.fewest(1), NONE);
        wants(x, 6, 5, 4, 3, 2, 1, 0);
        due("all but one", x.fewest(0), 6);
        due("a", x.fewest(1), 0);
        due("b", x.fewest(2), 1);
        wants(x, 0, 1, 5, 2, 3, 4, 6);
        due("one", x.fewest(0), 1);
        due("a", x.fewest(1), 5);
        due("b", x.fewest(2), 2);
        x.sing(0, 1);
        due("as they are now", x.fewest(0), 2);
        due("what 3", x.fewest(3), NONE);
        due("what -1", x.fewest(-1), NONE);
        x.stool(4);
        colours(x, 1, 0, 1, 0);
        wants(x, 0, 1, 0, 1);
        due("alike colours", x.fewest(0), 1);
        due("the least a", x.fewest(1), 0);
        due("then b", x.fewest(2), 3);
        colours(x, 1, 1, 0, 0);
        wants(x, 0, 0, 1, 1);
        due("two", x.fewest(0), 2);
        due("the least a", x.fewest(1), 0);
        due("then b", x.fewest(2), 3);
        x.stool(8);
        due("N 8", x.fewest(0), NONE);
        due("N 8", x.fewest(1), NONE);
    }

    private static void cut() {
        promise(19);
        RoundStool x = with(4, "lift 0 to 3;", "turn 1;", "swap 0 1 if 1;", "turn 0;");
        colours(x, 1, 0, 0, 0);
        wants(x, 1, 0, 0, 0);
        due("8 and 8 and 1 and 31", x.cut(0), 48);
        due("first song", x.cut(1), 0);
        due("0 times", x.cut(2), 0);
        wants(x, 0, 0, 1, 0);
        due("8 and 8", x.cut(0), 16);
        due("first song", x.cut(1), 0);
        due("2 times", x.cut(2), 2);
        wants(x, 0, 1, 0, 0);
        due("7 and 8 and 30", x.cut(0), 45);
        due("first", x.cut(2), 3);
        x.sing(1, 1);
        due("from the beginning", x.cut(0), 45);
        tell(x, 0, "");
        due("8 and 30", x.cut(0), 38);
        due("first song", x.cut(1), 1);
        due("once", x.cut(2), 1);
        wants(x, 3, 3, 3, 3);
        due("none", x.cut(0), 0);
        due("none", x.cut(1), NONE);
        due("none", x.cut(2), NONE);
        due("what 3", x.cut(3), NONE);
        due("what -1", x.cut(-1), NONE);
    }

    private static void dropped() {
        promise(20);
        RoundStool x = with(4, "lift 0 to 3;", "turn 1;", "lift 0 to 2 if 1;");
        colours(x, 1, 2, 3, 4);
        wants(x, 1, 2, 3, 4);
        due("held at home by strand 0, whenever it drops", x.dropped(0, 5, 0), 5);
        due("strand 0", x.dropped(0, 5, 1), 0);
        due("ahead of 1", x.dropped(0, 5, 2), 1);
        due("none, 0 always, 1 and 2 behind their lifts", x.dropped(0, 4, 0), 8);
        due("none dropped first", x.dropped(0, 4, 1), NONE);
        due("told as n and 1", x.dropped(0, 4, 2), 5);
        wants(x, 2, 3, 4, 1);
        due("by strand 1", x.dropped(0, 3, 0), 2);
        due("strand 1", x.dropped(0, 3, 1), 1);
        due("ahead of 1", x.dropped(0, 3, 2), 1);
        due("30", x.dropped(0, 30, 0), 30);
        due("31", x.dropped(0, 31, 0), NONE);
        due("0", x.dropped(0, 0, 0), NONE);
        due("song 4", x.dropped(4, 1, 0), NONE);
        due("song -1", x.dropped(-1, 1, 0), NONE);
        due("what 3", x.dropped(0, 1, 3), NONE);
        due("what -1", x.dropped(0, 1, -1), NONE);
        wants(x, 4, 1, 2, 3);
        due("turned all the same", x.dropped(1, 1, 0), 5);
        due("none dropped", x.dropped(1, 1, 1), NONE);
        due("n and 1", x.dropped(1, 1, 2), 2);
        x.sing(0, 1);
        due("from the beginning", x.dropped(1, 1, 0), 5);
        wants(x, 2, 3, 1, 4);
        due("colours asked", x.dropped(2, 2, 0), 8);
        wants(x, 9, 9, 9, 9);
        due("nothing fits", x.dropped(0, 3, 0), 0);
        due("nothing fits", x.dropped(0, 3, 1), NONE);
        due("nothing fits", x.dropped(0, 3, 2), NONE);
    }

    private static void beats() {
        promise(21);
        RoundStool x = with(8, "swap 0 1;swap 2 3;swap 4 5;swap 6 7;", "lift 0 to 4;turn 5;swap 2 6 if 9;lift 1 to 3;", "turn 1;",
            "lift 0 to 7;lift 3 to 3;swap 1 5;lift 2 to 4;lift 3 to 6;");
        due("9 monks", x.beats(0, 9), 1);
        due("4", x.beats(0, 4), 1);
        due("3", x.beats(0, 3), 2);
        due("1", x.beats(0, 1), 4);
        due("crossing arms", x.beats(1, 9), 3);
        due("turns alone", x.beats(2, 1), 0);
        due("one in the other", x.beats(3, 9), 2);
        due("0 monks", x.beats(0, 0), NONE);
        due("10 monks", x.beats(0, 10), NONE);
        due("song 4", x.beats(4, 1), NONE);
        due("song -1", x.beats(-1, 1), NONE);
        tell(x, 0, "swap 0 1;swap 1 2;swap 5 6;");
        due("the earliest", x.beats(0, 2), 2);
        tell(x, 0, "swap 0 1;swap 0 1;swap 5 6;swap 3 4;");
        due("where fewer move", x.beats(0, 2), 2);
        tell(x, 0, "swap 0 1;swap 0 2;swap 4 5;swap 4 6;swap 7 7;swap 3 3;");
        due("full beats", x.beats(0, 2), 3);
        tell(x, 0, "times 5(times 5(times 8(swap 0 1;)))");
        due("200", x.beats(0, 9), 200);
        tell(x, 0, "times 5(times 5(times 2(swap 0 1;swap 2 3;swap 4 5;swap 6 7;)))");
        due("200", x.beats(0, 1), 200);
    }

    private static void name() {
        promise(22);
        RoundStool x = with(8, "swap 0 1;");
        x.sing(0, 1);
        due("0", x.name(0, 0), true);
        due("29", x.name(29, 9), true);
        due("look", x.look(69), 9);
        due("30", x.name(30, 0), false);
        due("-1", x.name(-1, 0), false);
        due("10", x.name(0, 10), false);
        due("-2", x.name(0, -2), false);
        due("it stays", x.look(40), 0);
        due("none", x.name(0, NONE), true);
        due("look", x.look(40), NONE);
        due("undo stays", x.undo(), true);
        due("undo leaves it", x.look(69), 9);
    }

    private static void lay() {
        promise(23);
        RoundStool x = with(4, "lift 0 to 3 if 9;", "turn 1;", "turn 1;swap 0 0;");
        due("no name", x.lay(1), 0);
        x.name(0, 5);
        x.name(1, 6);
        due("each if as so", x.lay(0), 2);
        due("not reached", x.lay(1), NONE);
        x.colour(1, 6);
        due("one has it", x.lay(0), 1);
        x.name(4, 5);
        due("the same again", x.lay(0), 1);
        x.name(4, 0);
        due("two needed", x.lay(0), NONE);
        x.name(4, NONE);
        x.name(29, 6);
        due("29 is strand 1", x.lay(0), 1);
        x.name(28, 6);
        due("28 is strand 0", x.lay(0), NONE);
        x.name(28, NONE);
        x.name(29, NONE);
        due("other strands", x.lay(2), 2);
        x.sing(0, 1);
        x.sing(1, 1);
        due("from the beginning", x.lay(0), 1);
        due("nothing stays", x.of(0, 1), 0);
        due("song 4", x.lay(4), NONE);
        due("song -1", x.lay(-1), NONE);
        x.name(0, NONE);
        x.name(1, 0);
        due("another than it has", x.lay(0), 1);
        x.name(1, 6);
        due("as it has", x.lay(0), 0);
    }

    private static void pulled() {
        promise(24);
        RoundStool x = with(5, "lift 2 to 0;", "swap 0 1;", "lift 4 to 3;");
        x.sing(0, 1);
        due("all", x.pulled(NONE), 5);
        due("the least first", x.pulled(0), 2);
        due("then 0", x.pulled(1), 0);
        due("then 1", x.pulled(2), 1);
        due("then 3", x.pulled(3), 3);
        due("then 4", x.pulled(4), 4);
        due("5", x.pulled(5), NONE);
        due("-2", x.pulled(-2), NONE);
        x.sing(1, 2);
        due("2 and 0 hold one another", x.pulled(NONE), 2);
        due("3", x.pulled(0), 3);
        due("4", x.pulled(1), 4);
        due("no more", x.pulled(2), NONE);
        x.sing(2, 1);
        due("4 is over 3", x.pulled(0), 4);
        due("then 3", x.pulled(1), 3);
        due("nothing stays", x.pulled(NONE), 2);
    }

    private static void loops() {
        promise(25);
        RoundStool x = with(6, "lift 0 to 2;", "swap 3 4;", "turn 1;");
        due("six", x.loops(NONE), 6);
        x.sing(0, 1);
        due("four", x.loops(NONE), 4);
        due("of three", x.loops(0), 3);
        due("of three", x.loops(2), 3);
        due("of one", x.loops(5), 1);
        x.sing(1, 1);
        due("three", x.loops(NONE), 3);
        due("of two", x.loops(4), 2);
        due("strand 6", x.loops(6), NONE);
        due("strand -2", x.loops(-2), NONE);
        x.stool(6);
        tell(x, 0, "turn 1;");
        x.sing(0, 2);
        due("two", x.loops(NONE), 2);
        due("of three", x.loops(5), 3);
    }

    private static void alike() {
        promise(26);
        RoundStool x = with(6, "swap 0 1;", "lift 0 to 1;", "lift 1 to 0;", "swap 0 1 if 3;");
        due("swap and lift", x.alike(0, 1), 2);
        due("the other one over", x.alike(0, 2), 1);
        due("the other way", x.alike(2, 0), 1);
        due("no colour", x.alike(0, 3), 0);
        due("with itself", x.alike(3, 3), 2);
        x.colour(0, 3);
        due("with the colour", x.alike(0, 3), 2);
        x.sing(0, 1);
        due("from the beginning", x.alike(0, 3), 2);
        due("nothing stays", x.over(0, 1), 1);
        due("song 4", x.alike(4, 0), NONE);
        due("song 4", x.alike(0, 4), NONE);
        due("song -1", x.alike(-1, 0), NONE);
        due("song -1", x.alike(0, -1), NONE);
        tell(x, 0, "turn 1;");
        tell(x, 1, "lift 5 to 0;");
        due("turned or lifted", x.alike(0, 1), 1);
    }

    private static void period() {
        promise(27);
        RoundStool x = with(4, "lift 0 to 2;", "lift 3 to 3;");
        due("no rows", x.period(0), 0);
        due("no rows", x.period(1), 0);
        x.colour(2, 1);
        x.sing(0, 1);
        due("one row", x.period(0), 1);
        x.sing(0, 1);
        due("two rows", x.period(0), 2);
        due("by colours", x.period(1), 1);
        x.sing(0, 6);
        due("by strands", x.period(0), 3);
        due("by colours", x.period(1), 3);
        x.sing(1, 1);
        due("none but all", x.period(0), 9);
        due("by colours", x.period(1), 7);
        due("what 2", x.period(2), NONE);
        due("what -1", x.period(-1), NONE);
        x.stool(4);
        tell(x, 0, "lift 0 to 2;");
        x.sing(0, 5);
        due("all one colour", x.period(1), 1);
        due("by strands", x.period(0), 3);
    }

    private static void undo() {
        promise(28);
        RoundStool x = with(5, "lift 0 to 3;swap 4 1;", "");
        x.slip(300);
        x.state(77);
        due("nothing", x.undo(), false);
        x.sing(0, 3);
        int state = x.look(4);
        int rows = x.look(2);
        int sung = x.look(3);
        int[] at = new int[5];
        int[] moved = new int[5];
        int over = 0;
        for (int s = 0; s < 5; s++) {
            at[s] = x.at(s, 0);
            moved[s] = x.of(s, 2);
            over += x.over(s, (s + 1) % 5) << (4 * s);
        }
        x.sing(0, 5);
        due("six are kept", x.look(5), 6);
        for (int i = 5; i > 0; i--) {
            due("undo", x.undo(), true);
            due("left", x.look(5), i);
        }
        due("state", x.look(4), state);
        due("rows", x.look(2), rows);
        due("sung", x.look(3), sung);
        strands("as it was", x, at);
        for (int s = 0; s < 5; s++) {
            due("moved", x.of(s, 2), moved[s]);
            over -= x.over(s, (s + 1) % 5) << (4 * s);
        }
        due("over", over, 0);
        due("the sixth", x.undo(), true);
        due("no more", x.undo(), false);
        x.sing(1, 2);
        due("empty songs are singings", x.look(5), 2);
        tell(x, 1, "turn 1;");
        x.want(0, 1);
        x.name(0, 1);
        x.feed(0, 0, 0, 0, 0);
        x.end(0);
        x.image(true);
        due("these don't forget", x.look(5), 2);
        due("undo", x.undo(), true);
        due("texts stay", x.look(11), 1);
        x.sing(1, 1);
        x.colour(0, 0);
        due("colour forgets", x.look(5), 0);
        x.sing(1, 1);
        x.slip(0);
        due("slip forgets", x.look(5), 0);
        x.sing(1, 1);
        x.state(0);
        due("state forgets", x.look(5), 0);
        x.sing(1, 1);
        x.stool(5);
        due("stool forgets", x.look(5), 0);
        x.sing(1, 1);
        x.image(false);
        due("image forgets", x.look(5), 0);
    }

    private static void image() {
        promise(29);
        RoundStool x = with(5, "lift 0 to 3;", "turn 1;");
        x.sing(0, 1);
        due("none", x.image(false), false);
        due("undo stays", x.look(5), 1);
        colours(x, 1, 2, 3, 4, 5);
        x.slip(10);
        x.state(5);
        x.want(1, 7);
        x.name(2, 8);
        x.sing(0, 2);
        int state = x.look(4);
        int sung = x.look(3);
        due("taken", x.image(true), true);
        due("undo stays", x.look(5), 2);
        for (int time = 0; time < 2; time++) {
            int before = x.at(0, 0);
            x.sing(0, 7);
            tell(x, 0, "turn 1;turn 1;");
            x.want(1, 1);
            x.name(2, 1);
            x.colour(0, 9);
            x.slip(0);
            x.state(1);
            x.stool(16);
            tell(x, 3, "(");
            tape(x, "turn 1;");
            due("gone back", x.image(false), true);
            due("N", x.look(0), 5);
            due("state", x.look(4), state);
            due("slip", x.look(1), 10);
            due("sung", x.look(3), sung);
            due("rows", x.look(2), sung);
            due("row 0", x.outside(0, 0), 0);
            due("row 0", x.outside(0, 1), 0);
            due("row 1", x.outside(1, 1) > 0, true);
            due("want", x.look(21), 7);
            due("name", x.look(42), 8);
            due("colour", x.of(0, 1), 1);
            due("song", x.look(10), 1);
            due("song", x.look(13), 0);
            due("at", x.at(0, 0), before);
            due("over", x.over(0, 1), 1);
            due("moved", x.of(0, 2), 1);
            due("nothing to undo", x.look(5), 0);
            due("fault stays", x.fault(0), 1);
            due("tape stays", x.end(7), true);
            due("song works", x.where(0, 0, 1, false) != NONE, true);
        }
        x.stool(4);
        x.image(true);
        x.stool(7);
        x.image(false);
        due("taken anew", x.look(0), 4);
    }

    private static void look() {
        promise(30);
        RoundStool x = with(6, "swap 0 1;", "turn 1;turn 1;", "times 3(turn 1;)", "times 4(turn 1;)");
        x.slip(1);
        x.state(-7);
        x.sing(1, 4);
        due("N", x.look(0), 6);
        due("slip", x.look(1), 1);
        due("rows", x.look(2), 0);
        due("sung", x.look(3), 0);
        due("state", x.look(4), -7);
        due("undo", x.look(5), 4);
        for (int what : new int[] {-1, 6, 9, 14, 19, 26, 35, 39, 70, 1000, Integer.MIN_VALUE, Integer.MAX_VALUE}) {
            due("look " + what, x.look(what), NONE);
        }
        for (int k = 0; k < 4; k++) {
            due("song", x.look(10 + k), k + 1);
        }
        x.want(5, 4);
        due("want", x.look(25), 4);
        due("want", x.look(24), 0);
        x.name(0, 3);
        due("name", x.look(40), 3);
        due("name", x.look(41), NONE);
        x.stool(16);
        x.want(15, 9);
        due("want of sixteen", x.look(35), 9);
        due("no seventeenth", x.look(36), NONE);
    }
}
