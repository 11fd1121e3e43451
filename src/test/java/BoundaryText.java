/** The boundary cases of promises 6 to 9: the tape, texts and their faults. */
abstract class BoundaryText extends Sentences {

    static void all() {
        feed();
        end();
        text();
        bounds();
        tokens();
        numbers();
        blanks();
        steps();
        firstFault();
        cantStand();
        open();
        tooMany();
        fault();
    }

    private static void feed() {
        sentence(6, "Twenty bytes come behind the TAPE, of each number the highest first: how many it has.", x -> {
            due("twenty", x.feed(0x7475726E, 0x2031353B, 0x73776170, 0x20302037, 0x3B6C6966), 20);
            due("twenty more", x.feed(0x74203020, 0x746F2037, 0x3B202020, 0x20202020, 0x20202020), 40);
            due("turn 15;swap 0 7;lift 0 to 7;", x.text(0), 3);
            due("from nothing again", x.feed(0x20202020, 0x20202020, 0x20202020, 0x20202020, 0x20202020), 20);
            x.end(3);
            due("behind three", x.feed(0, 0, 0, 0, 0), 23);
        });
        sentence(6, "of each number the highest first", x -> {
            due("bytes of -1, 255 each", x.feed(0x7475726E, 0x20313B20, -1, 0, 0), 20);
            due("they can't stand there", x.text(0), NONE);
            due("the first of them", x.fault(1), 8);
            x.feed(0x20202080, 0x20202020, 0x20202020, 0x20202020, 0x20202020);
            due("128 in the lowest byte", x.text(0), NONE);
            due("its place", x.fault(1), 3);
            x.feed(0x80202020, 0, 0, 0, 0);
            due("128 in the highest byte", x.text(0), NONE);
            due("its place", x.fault(1), 0);
            x.feed(0x20202020, 0x20202020, 0x20202020, 0x20202020, 0x20202041);
            due("the last of twenty", x.text(0), NONE);
            due("its place", x.fault(1), 19);
        });
        sentence(6, "NONE, and nothing comes, if there would be more than 400.", x -> {
            for (int i = 1; i <= 20; i++) {
                due("feed " + i, x.feed(0x20202020, 0x20202020, 0x20202020, 0x20202020, 0x20202020), 20 * i);
            }
            due("full", x.feed(0x41414141, 0x41414141, 0x41414141, 0x41414141, 0x41414141), NONE);
            due("no 401st byte", x.end(401), false);
            due("400 bytes", x.end(400), true);
            due("399 bytes", x.end(399), true);
            due("399 and 20", x.feed(0x41414141, 0x41414141, 0x41414141, 0x41414141, 0x41414141), NONE);
            due("no 400th byte", x.end(400), false);
            due("381 bytes", x.end(381), true);
            due("381 and 20", x.feed(0x41414141, 0x41414141, 0x41414141, 0x41414141, 0x41414141), NONE);
            due("no 382nd byte", x.end(382), false);
            due("nothing came", x.text(0), 0);
            due("there is room again", x.feed(0, 0, 0, 0, 0), 20);
        });
        sentence(6, "if there would be more than 400", x -> {
            tape(x, " ".repeat(380));
            due("380 and 20 are no more", x.feed(0x7475726E, 0x20313B74, 0x75726E20, 0x323B7475, 0x726E313B), 400);
            due("all of them count", x.text(0), 3);
            faulty(x, ";".repeat(400), 1, 0);
            faulty(x, "1".repeat(400), 1, 0);
            faulty(x, "t".repeat(400), 1, 0);
            faulty(x, " ".repeat(399) + "1", 1, 399);
            faulty(x, " ".repeat(394) + "turn 1", 1, 400);
            faulty(x, " ".repeat(393) + "turn 16", 2, 398);
            moves(x, "times 1()".repeat(44) + "    ", 0);
        });
    }

    private static void end() {
        sentence(7, "The TAPE has its first n bytes alone: true", x -> {
            tape(x, "turn 1;turn 2;");
            due("all of them", x.end(14), true);
            due("seven", x.end(7), true);
            due("the first ones", x.text(0), 1);
            tape(x, "turn 1;turn");
            due("none of them", x.end(0), true);
            due("none", x.end(1), false);
            due("an empty text", x.text(0), 0);
            tape(x, "turn 15;");
            x.end(6);
            x.feed(0x3B202020, 0x20202020, 0x20202020, 0x20202020, 0x20202020);
            due("others come behind", x.text(0), 1);
            x.sing(0, 1);
            due("turn 1;", x.of(0, 0), 1);
            tape(x, "turn 16;");
            x.end(6);
            due("what is gone is no part of a number", x.text(0), NONE);
            due("the end can't stand there", x.fault(0), 1);
            due("its place", x.fault(1), 6);
            tape(x, "turn 1;turnx");
            x.end(11);
            due("nor of a word", x.text(0), NONE);
            due("its place", x.fault(1), 11);
        });
        sentence(7, "false, changing nothing, if it has not so many, or n is below 0.", x -> {
            due("1 of none", x.end(1), false);
            due("0 of none", x.end(0), true);
            tape(x, "turn 1;");
            due("8 of 7", x.end(8), false);
            due("-1", x.end(-1), false);
            for (int n : FAR) {
                due("end " + n, x.end(n), false);
            }
            due("7 of 7", x.end(7), true);
            due("8 of 7", x.end(8), false);
            due("all are there", x.text(0), 1);
        });
    }

    private static void text() {
        sentence(8, "The TAPE, empty then, is SONG k: how many MOVES in one singing.", x -> {
            for (int k = 0; k < 4; k++) {
                due("song " + k, tell(x, k, "times " + (k + 1) + "(turn 1;)"), k + 1);
                due("its moves", x.look(10 + k), k + 1);
                due("the tape is empty", x.end(1), false);
            }
            due("an empty tape is an empty song", x.text(3), 0);
            due("it is", x.look(13), 0);
            due("the others stay", x.look(12), 3);
            tell(x, 2, "(");
            due("empty behind a fault, too", x.end(1), false);
            tell(x, 4, "turn 1;");
            due("and behind no such song", x.end(1), false);
        });
        sentence(8, "The TAPE, empty then, is SONG k", x -> {
            songs(x, "turn 1;lift 0 to 7;", "turn 1;lift 0 to 7;");
            tell(x, 0, "turn 2;");
            tell(x, 1, "");
            due("nothing stays of the longer one", x.where(0, 0, 1, false), 2);
            due("nor in the mirror", x.where(0, 0, 1, true), 6);
            due("nor in an empty one", x.where(1, 0, 1, false) + x.where(1, 0, 1, true), 0);
            due("nor by singing", x.sing(0, 1) + x.sing(1, 1), 0);
            due("where", x.at(2, 0), 0);
            due("back", x.back(0, 0), 4);
            due("no beats", x.beats(0, 1), 0);
            due("alike but for the turn", x.alike(0, 1), 0);
            x.name(0, 5);
            due("no rows", x.lay(0), NONE);
            tell(x, 2, "times 5(times 5(times 8(turn 1;)))");
            due("the longest", x.where(2, 0, 1, false) + x.where(2, 0, 1, true), 4);
        });
        sentence(8, "NONE: no such one (fault() tells 0)", x -> {
            int[] none = {-1, 4, Integer.MIN_VALUE, Integer.MAX_VALUE};
            for (int k : none) {
                tell(x, 0, "turn 16;");
                due("a fault ahead of it", x.fault(0), 2);
                due("song " + k, tell(x, k, "turn 1;"), NONE);
                due("its fault", x.fault(0), 0);
                due("its place", x.fault(1), NONE);
                due("a faulty text for song " + k, tell(x, k, "turn 16;"), NONE);
                due("its fault", x.fault(0), 0);
            }
            for (int k = 0; k < 4; k++) {
                due("song " + k + " stays", x.look(10 + k), 0);
            }
        });
        sentence(8, "or a FAULT (it stays as it was)", x -> {
            songs(x, "swap 0 1;turn 1;", "", "", "lift 0 to 7;");
            int[] kinds = {1, 2, 3, 4};
            String[] texts = {"turn 5", "turn 16;", "times 1(times 1(times 1(times 1(times", "times 9(times 9(times 9(turn 2;)))"};
            for (int i = 0; i < 4; i++) {
                due("a fault", tell(x, 0, texts[i]), NONE);
                due("fault", x.fault(0), kinds[i]);
                due("a fault", tell(x, 3, texts[i]), NONE);
                due("song 0 stays", x.look(10), 2);
                due("song 3 stays", x.look(13), 1);
            }
            due("it is sung as it was", x.sing(0, 1), 1);
            due("strand 0", x.of(0, 0), 2);
            due("strand 1", x.of(1, 0), 1);
        });
        sentence(8, "in one singing", x -> {
            moves(x, "", 0);
            moves(x, "times 9()", 0);
            moves(x, "times 9(times 9(times 9(times 9())))", 0);
            moves(x, "lift 0 to 0;swap 0 0;turn 0;", 3);
            moves(x, "times 1(turn 1;)times 9(turn 1;)", 10);
            moves(x, "times 2(turn 1;times 3(turn 1;times 4(turn 1;times 5(turn 1;))))", 2 * (1 + 3 * (1 + 4 * (1 + 5))));
        });
    }

    private static void bounds() {
        sentence(8, "S: a SLOT there is", x -> {
            for (int n = 4; n <= 16; n++) {
                RoundStool y = with(n);
                moves(y, "lift 0 to " + (n - 1) + ";swap " + (n - 1) + " 0;", 2);
                moves(y, "lift " + (n - 1) + " to 0;swap 0 " + (n - 1) + ";", 2);
                faulty(y, "lift " + n + " to 0;", 2, 5);
                faulty(y, "lift 0 to " + n + ";", 2, 10);
                faulty(y, "swap " + n + " 0;", 2, 5);
                faulty(y, "swap 0 " + n + ";", 2, 7);
            }
        });
        sentence(8, "C: a COLOUR", x -> {
            for (int c = 0; c <= 9; c++) {
                moves(x, "lift 0 to 1 if " + c + ";swap 0 1 if " + c + ";", 2);
            }
            faulty(x, "lift 0 to 1 if 10;", 2, 15);
            faulty(x, "swap 0 1 if 10;", 2, 12);
            faulty(x, "swap 0 1 if 9999;", 2, 12);
        });
        sentence(8, "K: 0 .. 15", x -> {
            for (int n = 4; n <= 16; n += 6) {
                x.stool(n);
                moves(x, "turn 0;turn 15;", 2);
                faulty(x, "turn 16;", 2, 5);
            }
        });
        sentence(8, "R: 1 .. 9.", x -> {
            moves(x, "times 1(turn 1;)", 1);
            moves(x, "times 9(turn 1;)", 9);
            faulty(x, "times 0(turn 1;)", 2, 6);
            faulty(x, "times 10(turn 1;)", 2, 6);
        });
        sentence(9, "2 (at the NUMBER) one beyond its bounds", x -> {
            faulty(x, "turn    16 ;", 2, 8);
            faulty(x, "turn 0016;", 2, 5);
            faulty(x, "turn 9999;", 2, 5);
            faulty(x, "lift 8 to 99;", 2, 5);
            faulty(x, "swap 7\n8;", 2, 7);
            faulty(x, "times 9999(", 2, 6);
            faulty(x, "lift 7 to 7 if 11", 2, 15);
        });
    }

    private static void tokens() {
        sentence(8, "TOKENS: letters as many as stand together are KEYWORDS (lift, to, if, swap, turn, times) or none", x -> {
            moves(x, "lift0to1if0;swap0 1if0;turn1;times1()", 3);
            faulty(x, "lif 0 to 1;", 1, 0);
            faulty(x, "lifts 0 to 1;", 1, 0);
            faulty(x, "LIFT 0 to 1;", 1, 0);
            faulty(x, "lifT 0 to 1;", 1, 0);
            faulty(x, "lift 0 t 1;", 1, 7);
            faulty(x, "lift 0 too 1;", 1, 7);
            faulty(x, "lift 0 to 1 iff 0;", 1, 12);
            faulty(x, "swap 0 1 i 0;", 1, 9);
            faulty(x, "swa 0 1;", 1, 0);
            faulty(x, "swapp 0 1;", 1, 0);
            faulty(x, "tur 1;", 1, 0);
            faulty(x, "turns 1;", 1, 0);
            faulty(x, "time 1()", 1, 0);
            faulty(x, "timess 1()", 1, 0);
            faulty(x, "turn 1;turnturn 1;", 1, 7);
            faulty(x, "z", 1, 0);
        });
        sentence(8, "KEYWORDS (lift, to, if, swap, turn, times) or none", x -> {
            String[] starts = {"", "lift 0 ", "lift 0 to 1 ", "", "", ""};
            String[] words = {"lift", "to", "if", "swap", "turn", "times"};
            for (int w = 0; w < words.length; w++) {
                for (int i = 0; i < words[w].length(); i++) {
                    String other = words[w].substring(0, i) + "x" + words[w].substring(i + 1);
                    faulty(x, starts[w] + other + " 0", 1, starts[w].length());
                }
            }
        });
        sentence(8, "letters as many as stand together", x -> {
            for (String sign : new String[] {"a", "z", "A", "Z"}) {
                faulty(x, "turn" + sign + " 1;", 1, 0);
                faulty(x, sign + "turn 1;", 1, 0);
            }
            for (String sign : new String[] {"@", "[", "`", "{", "_"}) {
                faulty(x, "turn" + sign + " 1;", 1, 4);
                faulty(x, sign + "turn 1;", 1, 0);
            }
            faulty(x, "li ft 0 to 1;", 1, 0);
            faulty(x, "turn t", 1, 5);
        });
        sentence(8, "; ( ) .", x -> {
            moves(x, "times 1(turn 1;)", 1);
            for (String sign : new String[] {"[", "]", "{", "}", ",", ":", ".", "'", "*", "<", "-", "+"}) {
                faulty(x, "turn 1" + sign, 1, 6);
                faulty(x, sign, 1, 0);
            }
        });
    }

    private static void numbers() {
        sentence(8, "digits as many as stand together NUMBERS of 1 to 4 digits or none", x -> {
            moves(x, "turn 1;turn 15;turn 015;turn 0015;", 4);
            moves(x, "lift 0000 to 0007 if 0009;times 0009()", 1);
            faulty(x, "turn 00001;", 1, 5);
            faulty(x, "turn 00000;", 1, 5);
            faulty(x, "turn 10000;", 1, 5);
            faulty(x, "turn 4294967296;", 1, 5);
            faulty(x, "turn 00000000000000000000000001;", 1, 5);
            faulty(x, "times 00001()", 1, 6);
            faulty(x, "swap 00000 1;", 1, 5);
            faulty(x, "swap 0 00001;", 1, 7);
        });
        sentence(8, "digits as many as stand together", x -> {
            faulty(x, "swap 01;", 1, 7);
            faulty(x, "turn 1 5;", 1, 7);
            faulty(x, "turn 1a;", 1, 6);
            faulty(x, "turn a1;", 1, 5);
            faulty(x, "turn /1;", 1, 5);
            faulty(x, "turn :1;", 1, 5);
            faulty(x, "turn 1:;", 1, 6);
            faulty(x, "turn 1/;", 1, 6);
            faulty(x, "turn -1;", 1, 5);
        });
    }

    private static void blanks() {
        sentence(8, "Blanks (32, 10) between.", x -> {
            moves(x, " \n \n", 0);
            moves(x, "\n\nlift \n0\nto  7\n \nif 0 ; \n", 1);
            moves(x, " times\n2 ( turn\n1 ; ) ", 2);
            for (int sign : new int[] {0, 1, 8, 9, 11, 12, 13, 31, 33, 127, 128, 133, 138, 160, 255}) {
                faulty(x, "turn 1;" + (char) sign, 1, 7);
                faulty(x, (char) sign + "turn 1;", 1, 0);
                faulty(x, "turn" + (char) sign + "1;", 1, 4);
            }
        });
    }

    private static void steps() {
        sentence(8, "are TEXTS (empty at first) = {STEP}.", x -> {
            moves(x, "", 0);
            moves(x, "turn 1;", 1);
            moves(x, "turn 1;".repeat(57), 57);
            moves(x, "turn1;".repeat(66) + "    ", 66);
        });
        sentence(8, "STEP = lift S to S [if C] ;", x -> {
            moves(x, "lift 0 to 7;", 1);
            moves(x, "lift 0 to 7 if 0;", 1);
            faulty(x, "lift 0 to 7 if;", 1, 14);
            faulty(x, "lift 0 to 7 if 0", 1, 16);
            faulty(x, "lift 0 to 7 turn 1;", 1, 12);
        });
        sentence(8, "| swap S S [if C] ;", x -> {
            moves(x, "swap 0 7;", 1);
            moves(x, "swap 0 7 if 0;", 1);
            faulty(x, "swap 0 7 if;", 1, 11);
            faulty(x, "swap 0 7 if 0", 1, 13);
            faulty(x, "swap 0 7 turn 1;", 1, 9);
        });
        sentence(8, "| turn K ;", x -> {
            moves(x, "turn 0;", 1);
            faulty(x, "turn;", 1, 4);
            faulty(x, "turn 1", 1, 6);
            faulty(x, "turn 1 turn 1;", 1, 7);
        });
        sentence(8, "| times R ( {STEP} ).", x -> {
            moves(x, "times 9()", 0);
            moves(x, "times 9(turn 1;)", 9);
            moves(x, "times 9(turn 1;turn 2;times 1())turn 1;", 19);
            faulty(x, "times 9(turn 1;", 1, 15);
            faulty(x, "times 9 turn 1;)", 1, 8);
            faulty(x, "times 9(turn 1)", 1, 14);
        });
    }

    private static void firstFault() {
        sentence(9, "FAULTS, the first by its place", x -> {
            faulty(x, "turn 16;turn", 2, 5);
            faulty(x, "turn;turn 16;", 1, 4);
            faulty(x, "turn 16;times 1(times 1(times 1(times 1(times", 2, 5);
            faulty(x, "times 1(times 1(times 1(times 1(times 0(", 3, 32);
            faulty(x, "times 0(times 1(times 1(times 1(times 1(", 2, 6);
            faulty(x, "times 9(times 9(times 9(turn 1;)))turn 16;", 2, 39);
            faulty(x, "times 9(times 9(times 9(turn 1;))));", 1, 34);
            faulty(x, "turn 15;swap 8 9;", 2, 13);
            faulty(x, "lift 0 to 8 if 10;", 2, 10);
        });
        sentence(9, "at one place the least", x -> {
            faulty(x, "times 9(times 9(times 9(turn 1;))", 1, 33);
            faulty(x, "times 9(times 9(times 9(turn 1;)))turn 1", 1, 40);
            faulty(x, "times 9(times 9(times 9(turn 1;)))lift", 1, 38);
            faulty(x, "turn 1 16;", 1, 7);
            faulty(x, "99999", 1, 0);
            faulty(x, "times 1(times 1(times 1(times 1(turn times", 1, 37);
        });
    }

    private static void cantStand() {
        sentence(9, "1 what can't stand there (the end: the text's length)", x -> {
            faulty(x, "l", 1, 0);
            faulty(x, "lift", 1, 4);
            faulty(x, "lift ", 1, 5);
            faulty(x, "lift 0", 1, 6);
            faulty(x, "lift 0 to", 1, 9);
            faulty(x, "lift 0 to 1", 1, 11);
            faulty(x, "lift 0 to 1 \n", 1, 13);
            faulty(x, "lift 0 to 1 if", 1, 14);
            faulty(x, "lift 0 to 1 if 0", 1, 16);
            faulty(x, "swap", 1, 4);
            faulty(x, "swap 0", 1, 6);
            faulty(x, "swap 0 1", 1, 8);
            faulty(x, "swap 0 1 if", 1, 11);
            faulty(x, "swap 0 1 if 0", 1, 13);
            faulty(x, "turn", 1, 4);
            faulty(x, "turn 1", 1, 6);
            faulty(x, "times", 1, 5);
            faulty(x, "times 1", 1, 7);
            faulty(x, "times 1(", 1, 8);
            faulty(x, "times 1(turn 1;", 1, 15);
            faulty(x, "times 1(times 1()", 1, 17);
            faulty(x, " ".repeat(399) + "x", 1, 399);
            faulty(x, " ".repeat(396) + "turn", 1, 400);
            faulty(x, " ".repeat(392) + "times 1(", 1, 400);
        });
        sentence(9, "1 what can't stand there", x -> {
            faulty(x, ";", 1, 0);
            faulty(x, "(", 1, 0);
            faulty(x, ")", 1, 0);
            faulty(x, "0", 1, 0);
            faulty(x, "to", 1, 0);
            faulty(x, "if", 1, 0);
            faulty(x, "turn 1;;", 1, 7);
            faulty(x, "turn 1 if 0;", 1, 7);
            faulty(x, "lift 0 1;", 1, 7);
            faulty(x, "lift to 1;", 1, 5);
            faulty(x, "lift 0 to to 1;", 1, 10);
            faulty(x, "lift 0 if 1;", 1, 7);
            faulty(x, "lift 0 to 1 to 0;", 1, 12);
            faulty(x, "swap 0 1 to 0;", 1, 9);
            faulty(x, "swap 0 if 1;", 1, 7);
            faulty(x, "lift 0 to 1 0;", 1, 12);
            faulty(x, "lift 0 to 1 if if 0;", 1, 15);
            faulty(x, "lift 0 to 1 if 0 if 0;", 1, 17);
            faulty(x, "lift 0 to 1)", 1, 11);
            faulty(x, "swap 0 to 1;", 1, 7);
            faulty(x, "swap 0;", 1, 6);
            faulty(x, "swap 0 1 2;", 1, 9);
            faulty(x, "times(turn 1;)", 1, 5);
            faulty(x, "times 2;", 1, 7);
            faulty(x, "times 2 turn 1;", 1, 8);
            faulty(x, "times 2((turn 1;))", 1, 8);
            faulty(x, "times 2(turn 1)", 1, 14);
            faulty(x, "times 2();", 1, 9);
            faulty(x, "times 2())", 1, 9);
            faulty(x, "turn 1;)", 1, 7);
        });
    }

    private static void open() {
        sentence(9, "3 (at the KEYWORD times) the 5th that is open", x -> {
            moves(x, "times 1(times 1(times 1(times 1(turn 1;))))", 1);
            faulty(x, "times 1(times 1(times 1(times 1(times 1(turn 1;)))))", 3, 32);
            faulty(x, "times 1(times 1(times 1(times 1( \n times", 3, 35);
            moves(x, "times 1()times 1()times 1()times 1()times 1()times 1(turn 1;)", 1);
            moves(x, "times 1(times 1(times 1(times 1()times 1()times 1(turn 1;))))", 1);
            faulty(x, "times 1(times 1(times 1(times 1()times 1(times 1()))))", 3, 41);
            moves(x, "times 1(times 1(times 1(times 1())))times 1(times 1(times 1(times 1(turn 1;))))", 1);
            faulty(x, "times 1(times 1(times 1(times 1())))times 1(times 1(times 1(times 1(times 1(", 3, 68);
        });
    }

    private static void tooLong(RoundStool x, String text) {
        faulty(x, text, 4, text.length());
    }

    private static void tooMany() {
        sentence(9, "4 (at the end) more than 200 MOVES in one singing", x -> {
            for (String step : new String[] {"turn 1;", "lift 0 to 0;", "swap 0 1;"}) {
                String twoHundred = "times 5(times 5(times 8(" + step + ")))";
                moves(x, twoHundred, 200);
                tooLong(x, twoHundred + step);
                tooLong(x, step + twoHundred);
                tooLong(x, twoHundred + step + " \n ");
            }
        });
        sentence(9, "(each STEP lift, swap, turn as often as it is sung)", x -> {
            tooLong(x, "times 9(times 9(times 9(times 9(turn 1;))))");
            tooLong(x, "times 9(times 9(times 9(turn 1;)))times 9(times 9(times 9(turn 1;)))");
            tooLong(x, "times 3(times 7(times 9(turn 1;))times 4(turn 1;))");
            moves(x, "times 9(times 9(times 9(times 9())))turn 1;", 1);
            moves(x, "times 9(times 9(times 2(turn 1;)))times 9(times 4(turn 1;))turn 1;turn 1;", 200);
            tooLong(x, "times 9(times 9(times 2(turn 1;)))times 9(times 4(turn 1;))turn 1;turn 1;turn 1;");
            tooLong(x, "times 5(times 5(times 8(turn 1;)))times 9(times 9(turn 1;))");
        });
    }

    private static void fault() {
        sentence(9, "Of the latest text(): what 0 the FAULT (0 without one), 1 its place (NONE).", x -> {
            due("no text yet", x.fault(0), 0);
            due("no text yet", x.fault(1), NONE);
            tell(x, 0, "x");
            due("a fault at the first place", x.fault(1), 0);
            due("a fault", x.fault(0), 1);
            x.feed(0, 0, 0, 0, 0);
            x.end(0);
            due("it stays with another tape", x.fault(0), 1);
            tell(x, 3, "  turn 16;");
            due("the latest, of another song", x.fault(0), 2);
            due("its place", x.fault(1), 7);
            x.text(0);
            due("without one", x.fault(0), 0);
            due("without a place", x.fault(1), NONE);
        });
        sentence(9, "NONE for another what.", x -> {
            tell(x, 0, "turn 16;");
            due("what 2", x.fault(2), NONE);
            due("what -1", x.fault(-1), NONE);
            for (int what : FAR) {
                due("what " + what, x.fault(what), NONE);
            }
            due("it stays", x.fault(0), 2);
        });
        sentence(9, "FAULT (0 without one)", x -> {
            faulty(x, "turn 1; turn", 1, 12);
            moves(x, "turn 1; turn 1;", 2);
            faulty(x, "turn 1; turn 1; turn 77;", 2, 21);
            moves(x, "", 0);
        });
    }
}
