/** "What it is": the bounds of a TEXT and of each ITEM, each sentence for itself, at the bound and one beyond it. */
public final class TextBoundsTest {
    private static final Check CHECK = new Check();
    private static final int NONE = OverAndBack.NONE;
    private static final int BAD = OverAndBack.BAD;
    private static final int NO = OverAndBack.NO;
    private static final int FULL = OverAndBack.FULL;
    /** Each letter of an ITEM with a good one of its kind, behind one STATION. */
    private static final String[] ITEMS = {"n1;", "s0;", "m0,0,0,0,0;", "b0,0,0;", "u0,0,0,0;", "g0;", "f0,0,0;", "w0,0;"};

    public static void main(String[] args) {
        twoHundredLetters();
        lettersOfItems();
        figures();
        parted();
        minutes();
        stations();
        scenes();
        severalScenes();
        breaks();
        breaksByChance();
        noneComes();
        going();
        rules();
        watchers();
        calls();
        faults();
        laid();
        beyondTheEvening();
        CHECK.end();
    }

    // ---- looking at a text

    private static void good(String text) {
        OverAndBack x = new OverAndBack();
        Check.write(x, text);
        CHECK.due("fault of " + text, x.fault(), NONE);
        CHECK.due("lay of " + text, x.lay() >= 1 ? 1 : 0, 1);
    }

    private static void wrong(String text, int place) {
        OverAndBack x = new OverAndBack();
        Check.write(x, text);
        CHECK.due("fault of " + text, x.fault(), place);
        CHECK.due("lay of " + text, x.lay(), NO);
        CHECK.due("stations stay", x.count(0), 2);
        CHECK.due("minutes stay", x.count(1), 12);
    }

    /** Every number of one or two figures in the place of #, behind one STATION: just least to greatest are good. */
    private static void number(String item, int least, int greatest) {
        numberBehind("s1;", item, least, greatest);
    }

    private static void numberBehind(String ahead, String item, int least, int greatest) {
        for (int v = 0; v <= 99; v++) {
            String text = ahead + item.replace("#", Integer.toString(v));
            if (v >= least && v <= greatest) {
                good(text);
            } else {
                wrong(text, ahead.length());
            }
        }
    }

    /** So many are good, one more is the FAULT; what tells how count answers them. */
    private static void atMost(String item, int most, int what) {
        String full = "s1;" + item.repeat(most);
        OverAndBack x = CHECK.laid(full);
        if (what >= 0) {
            CHECK.due("count of " + full, x.count(what), most);
        }
        good(full);
        wrong(full + item, full.length());
        wrong(full + item + "n1;", full.length());
    }

    /** STATIONS told ahead: each of them is good, the next number is not, though it is told behind. */
    private static void toldAhead(String item) {
        for (int many = 0; many <= 4; many++) {
            numberBehind("s1;".repeat(many), item, 0, many - 1);
        }
        for (int many = 1; many <= 3; many++) {
            String ahead = "s1;".repeat(many);
            wrong(ahead + item.replace("#", Integer.toString(many)) + "s1;", ahead.length());
        }
        wrong(item.replace("#", "0") + "s1;", 0);
    }

    /** Answers of a station from minute 0 on. */
    private static void row(OverAndBack x, int s, int what, int... due) {
        for (int t = 0; t < due.length; t++) {
            CHECK.due("minute " + s + " " + t + " " + what, x.minute(s, t, what), due[t]);
        }
    }

    // ---- the sentences

    private static void twoHundredLetters() {
        CHECK.says("A TEXT is letters (200 at most)");
        String text = "s1;" + "n1;".repeat(63) + "n10;n20;";
        CHECK.due("letters of it", text.length(), 200);
        OverAndBack x = new OverAndBack();
        for (int p = 0; p < 200; p++) {
            CHECK.due("write " + p, x.write(text.charAt(p)), p + 1);
        }
        CHECK.due("one beyond", x.write(';'), FULL);
        CHECK.due("one beyond again", x.write('s'), FULL);
        CHECK.due("letters", x.count(9), 200);
        CHECK.due("fault", x.fault(), NONE);
        CHECK.due("lay", x.lay(), 1);
        CHECK.due("the last item is read", x.count(1), 20);
        CHECK.due("wipe", x.wipe(), 200);
        OverAndBack y = new OverAndBack();
        Check.write(y, "s1;" + "n1;".repeat(63) + "n10;n2;s");
        CHECK.due("the last letter is read", y.fault(), 199);
    }

    private static void lettersOfItems() {
        CHECK.says("ITEMS one behind the other, each a letter, then numbers");
        for (int letter = 32; letter <= 126; letter++) {
            for (int many = 0; many <= 7; many++) {
                String numbers = letter == 'n' ? "1" + ",1".repeat(Math.max(0, many - 1)) : "0" + ",0".repeat(Math.max(0, many - 1));
                String item = (char) letter + (many == 0 ? "" : numbers) + ";";
                boolean isOne = false;
                for (String known : ITEMS) {
                    isOne |= item.equals(known);
                }
                if (isOne) {
                    good("s1;" + item);
                } else {
                    wrong("s1;" + item, 3);
                }
            }
        }
        for (String item : ITEMS) {
            good("s1;" + item + "g1;");
            wrong("s1; " + item, 3);
            wrong("s1;" + item + " ", 3 + item.length());
            wrong("s1;" + item + ";", 3 + item.length());
            wrong("s1;" + item.substring(1), 3);
            wrong("s1;" + item.charAt(0) + item, 3);
        }
        good("s1;");
        wrong(" s1;", 0);
    }

    private static void figures() {
        CHECK.says("numbers (one or two figures)");
        for (String item : ITEMS) {
            good("s1;" + item.replaceAll("([0-9])", "0$1"));
            wrong("s1;" + item.replaceAll("([0-9])", "00$1"), 3);
            for (int p = 1; p < item.length(); p += 2) {
                good("s1;" + item.substring(0, p) + "0" + item.substring(p));
                wrong("s1;" + item.substring(0, p) + "00" + item.substring(p), 3);
                wrong("s1;" + item.substring(0, p) + item.substring(p + 1), 3);
            }
        }
        CHECK.due("09 is nine", CHECK.laid("s1;n09;").count(1), 9);
        CHECK.due("10 is ten", CHECK.laid("s1;n10;").count(1), 10);
        for (String item : ITEMS) {
            for (int p = 1; p < item.length(); p += 2) {
                noFigures("s1;" + item.substring(0, p), item.substring(p + 1));
            }
        }
    }

    /** Between these each sign that is no figure is wrong, alone, ahead of a figure and behind one. */
    private static void noFigures(String ahead, String behind) {
        for (char sign = 32; sign <= 126; sign++) {
            if (sign < '0' || sign > '9') {
                wrong(ahead + sign + behind, 3);
                wrong(ahead + sign + "1" + behind, 3);
            }
            // A ; behind a figure may end the ITEM: that is looked at where it is told how they are parted.
            if ((sign < '0' || sign > '9') && sign != ';') {
                wrong(ahead + "1" + sign + behind, 3);
            }
        }
    }

    private static void parted() {
        CHECK.says("parted by , and a ; behind the last one:");
        for (int sign = 32; sign <= 126; sign++) {
            String parting = "s1;w0" + (char) sign + "0;";
            String ending = "s1;w0,0" + (char) sign;
            if (sign == ',') {
                good(parting);
            } else {
                wrong(parting, 3);
            }
            if (sign == ';') {
                good(ending);
            } else {
                wrong(ending, 3);
            }
        }
        for (String item : ITEMS) {
            wrong("s1;" + item.substring(0, item.length() - 1), 3);
            wrong("s1;" + item.replace(";", ",;"), 3);
            wrong("s1;" + item.replace(";", ",") + "g0;", 3);
            wrong("s1;" + item.charAt(0) + "," + item.substring(1), 3);
        }
        wrong("s1;w0,,0;", 3);
        wrong("s1;w0;0;", 3);
    }

    private static void minutes() {
        CHECK.says("nT the EVENING has minutes 0 to T less 1 (T 1 to 60; 30 without; the last one)");
        number("n#;", 1, 60);
        for (int many = 1; many <= 60; many++) {
            evening("s1;n" + many + ";", many);
        }
        evening("s1;", 30);
        evening("n5;s1;n60;", 60);
        evening("n60;s1;n1;", 1);
        evening("n1;n2;n3;s1;", 3);
        OverAndBack x = CHECK.laid("n7;s1;");
        x.wipe();
        Check.write(x, "s1;");
        for (int k = 0; k < 3; k++) {
            x.lay();
            CHECK.due("30 without, whatever was laid ahead", x.count(1), 30);
        }
    }

    private static void evening(String text, int many) {
        OverAndBack x = CHECK.laid(text);
        CHECK.due(text + " minutes", x.count(1), many);
        CHECK.due(text + " worth", x.plan(0), many);
        CHECK.due(text + " minute 0", x.at(0), 0);
        CHECK.due(text + " the last", x.at(many - 1), 0);
        CHECK.due(text + " behind it", x.at(many), BAD);
        CHECK.due(text + " the last shown", x.minute(0, many - 1, 0), 1);
        CHECK.due(text + " behind it", x.minute(0, many, 0), BAD);
    }

    private static void stations() {
        CHECK.says("sW a STATION; each minute of it is of WORTH W (0 to 9) and tells nothing; 4 at most, 0, 1, ..");
        number("s#;", 0, 9);
        good("s1;s1;s1;s1;");
        wrong("s1;s1;s1;s1;s1;", 12);
        for (int worth = 0; worth <= 9; worth++) {
            OverAndBack x = CHECK.laid("n2;s5;s" + worth + ";");
            row(x, 1, 0, worth, worth, BAD);
            row(x, 1, 1, NONE, NONE, BAD);
            row(x, 1, 2, 0, 0, BAD);
        }
        OverAndBack four = CHECK.laid("n60;s9;s0;s4;s7;");
        int[] due = {9, 0, 4, 7};
        for (int s = 0; s < 4; s++) {
            CHECK.due("first minute of " + s, four.minute(s, 0, 0), due[s]);
            CHECK.due("last minute of " + s, four.minute(s, 59, 0), due[s]);
        }
        CHECK.due("how many", four.count(0), 4);
        CHECK.due("no fifth", four.minute(4, 0, 0), BAD);
        CHECK.due("none ahead of 0", four.minute(-1, 0, 0), BAD);
    }

    private static void scenes() {
        CHECK.says("mS,A,B,W,F a SCENE of STATION S (told ahead)");
        toldAhead("m#,0,0,0,0;");
        OverAndBack last = CHECK.laid("n2;s1;s1;s1;s1;m3,0,0,6,2;");
        row(last, 2, 0, 1, 1);
        row(last, 3, 0, 6, 1);
        CHECK.says("minutes A to B (0 to 59, A no more than B), of WORTH W (0 to 9) each");
        number("m0,#,59,0,0;", 0, 59);
        number("m0,0,#,0,0;", 0, 59);
        number("m0,#,30,0,0;", 0, 30);
        number("m0,30,#,0,0;", 30, 59);
        number("m0,#,0,0,0;", 0, 0);
        number("m0,59,#,0,0;", 59, 59);
        number("m0,0,0,#,0;", 0, 9);
        row(CHECK.laid("n6;s1;m0,2,4,9,8;"), 0, 0, 1, 1, 9, 9, 9, 1);
        row(CHECK.laid("n6;s1;m0,0,0,0,8;"), 0, 0, 0, 1, 1, 1, 1, 1);
        row(CHECK.laid("n6;s1;m0,5,5,7,8;"), 0, 0, 1, 1, 1, 1, 1, 7);
        row(CHECK.laid("n6;s1;m0,0,59,3,8;"), 0, 0, 3, 3, 3, 3, 3, 3);
        OverAndBack sixty = CHECK.laid("n60;s1;m0,59,59,7,8;");
        CHECK.due("ahead of the last", sixty.minute(0, 58, 0), 1);
        CHECK.due("the last", sixty.minute(0, 59, 0), 7);
        CHECK.says("which tell FACT F (0 to 7; 8: none)");
        number("m0,0,0,0,#;", 0, 8);
        for (int fact = 0; fact <= 8; fact++) {
            OverAndBack x = CHECK.laid("n4;s1;m0,1,2,0," + fact + ";");
            int due = fact == 8 ? NONE : fact;
            row(x, 0, 1, NONE, due, due, NONE, BAD);
            CHECK.due("known of fact " + fact, x.plan(1), fact == 8 ? 0 : 1 << fact);
        }
        CHECK.says("(0 to 7; 8: none); 9 at most;");
        atMost("m0,0,0,0,0;", 9, 2);
    }

    private static void severalScenes() {
        CHECK.says("of several at one minute the last one is it");
        OverAndBack x = CHECK.laid("n6;s1;m0,0,3,5,2;m0,2,4,3,4;m0,3,3,0,8;");
        row(x, 0, 0, 5, 5, 3, 0, 3, 1);
        row(x, 0, 1, 2, 2, 4, NONE, 4, NONE);
        OverAndBack turned = CHECK.laid("n6;s1;m0,3,3,0,8;m0,2,4,3,4;m0,0,3,5,2;");
        row(turned, 0, 0, 5, 5, 5, 5, 3, 1);
        row(turned, 0, 1, 2, 2, 2, 2, 4, NONE);
        OverAndBack nine = CHECK.laid("n2;s1;" + "m0,0,0,5,1;".repeat(8) + "m0,0,0,6,2;");
        row(nine, 0, 0, 6, 1);
        row(nine, 0, 1, 2, NONE);
        OverAndBack other = CHECK.laid("n2;s1;s1;m0,0,0,5,1;m1,0,0,6,2;");
        row(other, 0, 0, 5, 1);
        row(other, 1, 0, 6, 1);
    }

    private static void breaks() {
        CHECK.says("bS,A,B a BREAK of STATION S (told ahead)");
        toldAhead("b#,0,0;");
        row(CHECK.laid("n2;s1;s1;s1;s1;b3,0,0;"), 2, 2, 0, 0);
        row(CHECK.laid("n2;s1;s1;s1;s1;b3,0,0;"), 3, 2, 1, 0);
        CHECK.says("minutes A to B (likewise), of no WORTH, that tell nothing, whatever SCENE is there;");
        number("b0,#,59;", 0, 59);
        number("b0,0,#;", 0, 59);
        number("b0,#,30;", 0, 30);
        number("b0,30,#;", 30, 59);
        for (String text : new String[] {"n6;s1;b0,2,4;m0,0,5,5,3;", "n6;s1;m0,0,5,5,3;b0,2,4;"}) {
            OverAndBack x = CHECK.laid(text);
            row(x, 0, 0, 5, 5, 0, 0, 0, 5);
            row(x, 0, 1, 3, 3, NONE, NONE, NONE, 3);
            row(x, 0, 2, 0, 0, 1, 1, 1, 0);
        }
        OverAndBack twice = CHECK.laid("n3;s1;b0,1,1;b0,0,1;");
        row(twice, 0, 0, 0, 0, 1);
        row(twice, 0, 2, 1, 1, 0);
        OverAndBack sixty = CHECK.laid("n60;s1;b0,59,59;");
        CHECK.due("ahead of the last", sixty.minute(0, 58, 2), 0);
        CHECK.due("the last", sixty.minute(0, 59, 2), 1);
        CHECK.says("whatever SCENE is there; 6 at most");
        atMost("b0,0,0;", 6, 3);
    }

    private static void breaksByChance() {
        CHECK.says("uS,A,B,P such a BREAK that comes by the chance of P of ten (0 to 10), else does not;");
        toldAhead("u#,0,0,0;");
        number("u0,#,59,0;", 0, 59);
        number("u0,0,#,0;", 0, 59);
        number("u0,#,30,0;", 0, 30);
        number("u0,30,#,0;", 30, 59);
        number("u0,0,0,#;", 0, 10);
        int[] above = {1, 9, 4, 7, 3, 1, 2, 3, 1, 1, 0};
        int[] below = {1, 10, 5, 10, 5, 2, 5, 10, 5, 10, 1};
        for (int chance = 0; chance <= 10; chance++) {
            OverAndBack x = CHECK.laid("n3;s0;m0,1,1,1,0;u0,1,1," + chance + ";");
            CHECK.due("above by " + chance, x.mean(-1, 0), above[chance]);
            CHECK.due("below by " + chance, x.mean(-1, 1), below[chance]);
            CHECK.due("sure by " + chance, x.sure(-1), chance == 0 ? 1 : 0);
        }
        CHECK.due("of its minutes alone", CHECK.laid("n4;s5;u0,1,2,10;").mean(-1, 0), 10);
        CHECK.due("of its station alone", CHECK.laid("n4;s5;s5;u1,1,2,10;").mean(-1, 0), 20);
        CHECK.says("else does not; 4 at most;");
        atMost("u0,0,0,0;", 4, 4);
        CHECK.due("each of four comes", CHECK.laid("n5;s9;u0,0,0,10;u0,1,1,10;u0,2,2,10;u0,3,3,10;").mean(-1, 0), 9);
    }

    private static void noneComes() {
        CHECK.says("without being told of chances none of these comes");
        String text = "n12;s2;s3;m0,2,4,7,0;b0,5,6;m1,5,5,9,1;f0,1,2;w0,0;w1,0;w2,0;w3,1;";
        String chances = "u0,0,59,10;u1,0,59,10;u0,3,4,9;u1,5,5,10;";
        OverAndBack x = CHECK.laid(text + chances);
        OverAndBack y = CHECK.laid(text);
        x.over(4, 1);
        y.over(4, 1);
        Questions questions = new Questions(x, y, CHECK);
        questions.evening();
        questions.watchers();
        questions.plan();
        questions.best();
        questions.fitting();
        CHECK.due("told of chances all come", x.mean(0, 0), 0);
        CHECK.due("told of chances all come", x.sure(0), 0);
    }

    private static void going() {
        CHECK.says("gG to go over takes G minutes (0 to 3; 1 without; the last one)");
        number("g#;", 0, 3);
        for (int minutes = 0; minutes <= 3; minutes++) {
            takes("s1;s1;g" + minutes + ";", minutes);
            takes("g" + (3 - minutes) + ";s1;s1;g" + minutes + ";", minutes);
        }
        takes("s1;s1;", 1);
        OverAndBack x = CHECK.laid("s1;s1;g3;");
        x.wipe();
        Check.write(x, "s1;s1;");
        for (int k = 0; k < 3; k++) {
            x.lay();
            x.over(0, 1);
            CHECK.due("1 without, whatever was laid ahead", x.at(0), NONE);
            CHECK.due("1 without, whatever was laid ahead", x.at(1), 1);
        }
    }

    private static void takes(String text, int minutes) {
        OverAndBack x = CHECK.laid(text);
        x.over(2, 1);
        for (int t = 0; t < 8; t++) {
            CHECK.due(text + " at " + t, x.at(t), t < 2 ? 0 : t < 2 + minutes ? NONE : 1);
        }
    }

    private static void rules() {
        CHECK.says("fA,B,C who knows FACTS A and B (0 to 7, alike or not) knows C (0 to 7); 6 at most");
        number("f#,0,0;", 0, 7);
        number("f0,#,0;", 0, 7);
        number("f0,0,#;", 0, 7);
        atMost("f0,0,0;", 6, -1);
        for (int a = 0; a < 8; a++) {
            for (int b = 0; b < 8; b++) {
                OverAndBack x = CHECK.laid("s1;f" + a + "," + b + "," + (7 - a) + ";");
                int both = 1 << a | 1 << b;
                CHECK.due("both " + a + " " + b, x.known(both), both | 1 << 7 - a);
                CHECK.due("one " + a + " " + b, x.known(1 << a), a == b ? both | 1 << 7 - a : 1 << a);
                CHECK.due("neither " + a + " " + b, x.known(255 & ~both & ~(1 << 7 - a)), 255 & ~both & ~(1 << 7 - a));
            }
        }
        CHECK.due("the sixth", CHECK.laid("s1;" + "f0,0,0;".repeat(5) + "f7,7,6;").known(128), 192);
    }

    private static void watchers() {
        CHECK.says("wK,S a WATCHER of KIND K (0 STAYS, 1 OVER, 2 BACK, 3 BEST) whose STATION is S (told ahead); 4 at most, 0, 1, ..");
        number("w#,0;", 0, 3);
        toldAhead("w0,#;");
        atMost("w0,0;", 4, 5);
        OverAndBack x = CHECK.laid("s1;s1;s1;s1;w3,0;w2,1;w1,2;w0,3;");
        for (int i = 0; i < 4; i++) {
            CHECK.due("kind of " + i, x.watcher(i, 0), 3 - i);
            CHECK.due("station of " + i, x.watcher(i, 1), i);
        }
        CHECK.due("no fifth", x.watcher(4, 0), BAD);
        OverAndBack kinds = CHECK.laid("n4;g0;s1;s1;s9;b0,1,1;w0,0;w1,0;w2,0;w3,0;");
        int[][] on = {{0, 0, 0, 0}, {0, 1, 1, 1}, {0, 1, 0, 0}, {2, 2, 2, 2}};
        for (int kind = 0; kind < 4; kind++) {
            for (int t = 0; t < 4; t++) {
                CHECK.due("kind " + kind + " at " + t, kinds.where(kind, t), on[kind][t]);
            }
        }
    }

    private static void calls() {
        CHECK.says("An object is used for at most 512 calls after it has been made; what later calls answer is free.");
        OverAndBack x = new OverAndBack();
        int used = 0;
        for (int k = 0; k < 201; k++) {
            CHECK.due("write", x.write("s9;".charAt(k % 3)), k < 200 ? k + 1 : FULL);
            used++;
        }
        for (int k = 0; k < 10; k++) {
            CHECK.due("over", x.over(k, 1 - k % 2), k < 9 ? k + 1 : FULL);
            used++;
        }
        for (int k = 0; used < 510; k++) {
            CHECK.due("begin", x.begin(1 - k % 2), k % 2);
            used++;
        }
        CHECK.due("call 511", x.count(7), 8);
        CHECK.due("call 512", x.known(3), 7);
    }

    private static void faults() {
        CHECK.says("FAULT: the place of the first letter of the first ITEM that is not so.");
        wrong("x", 0);
        wrong("s1;x", 3);
        wrong("s1;n1;n0;", 6);
        wrong("s1;n10;m0,0,0,0,9;", 7);
        wrong("s1;w0,1;x;n0;", 3);
        wrong("s1;w4,0;w0,0;", 3);
        wrong("s1;w0,0;w0,0;w0,0;w0,0;w0,0;s10;", 23);
        wrong("s10;s1;w0,0;", 0);
        wrong("s1;n60;" + "g1;".repeat(64) + "g", 199);
        wrong("s1;m0,0,0,0,0,0;", 3);
        wrong("s1;m0,0,0,0,0,0", 3);
    }

    private static void laid() {
        CHECK.says("LAID is a TEXT without FAULT, of a STATION at least (NO else; "
            + "at first n12;s2;s3;m0,2,4,7,0;b0,5,6;m1,5,5,9,1;b1,8,9;f0,1,2;w0,0;w1,0;w2,0;w3,1;).");
        for (String text : new String[] {"", "n5;", "g2;", "f0,1,2;", "n5;g2;f0,1,2;"}) {
            OverAndBack x = new OverAndBack();
            Check.write(x, text);
            CHECK.due("no fault in " + text, x.fault(), NONE);
            CHECK.due("no station in " + text, x.lay(), NO);
            CHECK.due("as at first", x.count(1), 12);
            Check.write(x, "s0;");
            CHECK.due("a station behind " + text, x.lay(), 1);
        }
        String first = "n12;s2;s3;m0,2,4,7,0;b0,5,6;m1,5,5,9,1;b1,8,9;f0,1,2;w0,0;w1,0;w2,0;w3,1;";
        OverAndBack told = CHECK.laid(first);
        Questions same = new Questions(new OverAndBack(), told, CHECK);
        told.wipe();
        same.all();
    }

    private static void beyondTheEvening() {
        CHECK.says("What is told of minutes beyond the EVENING does not matter.");
        String text = "n5;s1;s2;m0,1,4,4,0;w3,0;w1,1;";
        for (String more : new String[] {"m0,5,59,9,1;b1,5,59;u0,5,59,5;", "m1,59,59,9,7;u1,5,5,10;", "b0,5,5;b1,5,5;m0,5,5,9,1;m1,5,5,9,2;"}) {
            OverAndBack x = CHECK.laid(text + more);
            Questions same = new Questions(x, CHECK.laid(text), CHECK);
            same.evening();
            same.watchers();
            same.plan();
            same.best();
            same.chances();
            same.fitting();
        }
        String across = "n5;s1;s2;m0,1,59,4,0;b1,4,59;w3,0;w1,1;u0,3,59,5;";
        String within = "n5;s1;s2;m0,1,4,4,0;b1,4,4;w3,0;w1,1;u0,3,4,5;";
        new Questions(CHECK.laid(across), CHECK.laid(within), CHECK).evening();
        new Questions(CHECK.laid(across), CHECK.laid(within), CHECK).watchers();
        new Questions(CHECK.laid(across), CHECK.laid(within), CHECK).chances();
        OverAndBack later = CHECK.laid("n5;s0;s0;m1,0,0,0,1;m0,4,4,0,0;m0,5,59,0,1;");
        CHECK.due("what is told behind the evening is not learnt", later.understand(0, 3, 0), NONE);
        CHECK.due("what is told behind the evening is not learnt", later.soonest(0, 3), NONE);
        CHECK.due("what is told in it is", later.understand(1, 3, 1), 5);
    }
}
