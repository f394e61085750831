/** The boundary cases of promises 35 to 41: images, sheets, count. */
final class BoundsOfSheets {
    private static final int BAD = Bounds.BAD, STATE = Bounds.STATE, NONE = Bounds.NONE;

    private final Bounds b;

    BoundsOfSheets(Bounds b) {
        this.b = b;
    }

    void test() {
        keep();
        back();
        sheet();
        lay();
        read();
        readByTheMachine();
        readRefused();
        torn();
        count();
        countRefused();
    }

    private void keep() {
        b.said(35, "IMAGE k (0, 1) is MEN (all of them), who is with whom, COUSINS, DANCED, THE PROGRAM, what was SEEN: "
            + "whether there was one (1, 0).");
        b.nobody().asks("count(1)", 0).does("keep(0)", 0).asks("count(1)", 1).does("keep(0)", 1).does("keep(1)", 0)
            .asks("count(1)", 2).does("keep(1)", 1);
        Run most = b.told("bent 1 2;hearth 2 3;plain 3 4;booted 4 5;plain 5 6;cousins 4 4;cousins 0 4;")
            .makes("plan(0)", "plan(1)", "plan(2)", "plan(3)", "plan(3)", "plan(2)", "plan(1)", "plan(3)", "alter(4, 3, 7)",
                "dance(3)", "see(4, 0, 0)", "see(0, 0, 4)", "keep(1)");
        // what comes then is no part of it
        most.makes("alter(0, 0, 0)", "alter(4, 1, 0)", "alter(4, 2, 9)", "alter(4, 3, 1)", "swap(0, 4)", "kin(4, 4, false)",
            "kin(1, 1, true)", "cut(1)", "plan(2)", "forget(0)", "see(1, 0, 1)", "dance(1)", "back(1)")
            .asks("rule(0)", 5).asks("man(0, 0)", 2).asks("man(4, 1)", 5).asks("man(4, 2)", 5).asks("man(4, 3)", 7)
            .asks("woman(0)", 4).asks("woman(4)", 0).asks("cousins(4)", 16).asks("cousins(1)", 0).asks("rule(1)", 2)
            .asks("rule(3)", 1).asks("rule(2)", 8).asks("figure(1)", 1).asks("figure(7)", 3).asks("count(0)", 2)
            .asks("bent()", 31);
        most.makes("forget(1)", "see(0, 0, 3)").asks("bent()", 0).makes("back(1)").asks("bent()", 31);

        // the latest one counts, each by itself
        b.told(Bounds.stairs(2)).makes("keep(0)", "keep(1)", "dance(0)").does("keep(0)", 1).makes("dance(0)", "dance(0)")
            .does("back(0)", 1).asks("woman(0)", 1).does("back(1)", 0).asks("woman(0)", 0);

        b.said(35, "BAD.");
        b.rich().asks("keep(-1)", BAD).asks("keep(2)", BAD);
        b.nobody().asks("keep(-1)", BAD).asks("keep(2)", BAD);
    }

    private void back() {
        b.said(36, "All is as IMAGE k: DANCED.");
        b.told(Bounds.stairs(2)).makes("dance(0)", "keep(0)", "dance(0)", "dance(2)", "keep(1)").does("back(0)", 1)
            .asks("woman(0)", 1).does("back(1)", 3).asks("woman(0)", 0).does("back(0)", 1).asks("woman(0)", 1);
        // of nobody, too
        b.nobody().makes("keep(0)", "plan(0)").does("back(0)", 0).asks("rule(2)", 0);
        // neither THE TAPE nor the SHEETS are of it
        b.rich().does("back(0)", 0).asks("count(2)", 9).asks("count(3)", 3).asks("torn()", 2).asks("count(1)", 1)
            .asks("count(0)", 1).asks("man(1, 3)", 0).asks("rule(4)", 15);

        b.said(36, "BAD;");
        b.rich().asks("back(-1)", BAD).asks("back(2)", BAD);
        b.nobody().asks("back(-1)", BAD).asks("back(2)", BAD);

        b.said(36, "STATE: there is none.");
        b.rich().asks("back(1)", STATE);
        b.nobody().asks("back(0)", STATE).asks("back(1)", STATE).makes("keep(1)").asks("back(0)", STATE).does("back(1)", 0)
            .tells("plain 0 0;").asks("back(1)", STATE);
        b.nobody().makes("keep(0)", "keep(1)").feeds("?").makes("text()").does("back(0)", 0).does("back(1)", 0);
    }

    private void sheet() {
        b.said(37, "A SHEET is a new row of CELLS 0: 1.");
        Run x = b.told(Bounds.stairs(3));
        for (int lane = 0; lane < 3; lane++) {
            x.does("sheet(3, " + lane + ", 2)", 1).makes("lay(3, 0, 3)", "lay(3, 1, 3)").does("sheet(3, " + lane + ", 40)", 1)
                .makes("lay(3, 39, 3)").does("sheet(3, " + lane + ", 40)", 1).does("read(3, " + lane + ", 0, 1)", 1)
                .asks("woman(0)", 1).does("read(3, " + lane + ", 1, 1)", 1).asks("woman(0)", 2)
                .does("read(3, " + lane + ", 39, 1)", 1).asks("woman(0)", 0);
        }
        b.nobody().does("sheet(0, 0, 0)", 1).asks("count(3)", 0).does("sheet(0, 2, 40)", 1).asks("count(3)", 40)
            .does("sheet(0, 1, 1)", 1).asks("count(3)", 1).asks("lay(0, 1, 0)", -12);

        b.said(37, "BAD: also n above 40;");
        b.rich().asks("sheet(-1, 0, 1)", BAD).asks("sheet(4, 0, 1)", BAD).asks("sheet(0, -1, 1)", BAD).asks("sheet(0, 3, 1)", BAD)
            .asks("sheet(0, 0, 41)", BAD).asks("sheet(2, 0, 41)", BAD).asks("sheet(0, 1, MAX)", BAD);

        b.said(37, "-10 - 4.");
        b.rich().asks("sheet(0, 0, -1)", -14).asks("sheet(0, 2, MIN)", -14).asks("sheet(2, 1, -1)", -14);
        b.nobody().asks("sheet(3, 2, -1)", -14);
    }

    private void lay() {
        b.said(38, "CELL i of a SHEET becomes v (its lowest bits): 1.");
        // for each lane: what is laid, and the FIGURE that it is then; -1: none
        int[][] laid = {
            {0, 3, 4, 127, 128, 255, 256, 259, 260, -253, -256, -1, 65536 + 2, 0x7fffff01, Integer.MIN_VALUE, Integer.MAX_VALUE},
            {0, 3, -1, -1, -1, -1, 0, 3, -1, 3, 0, -1, 2, 1, 0, -1},
            {0, 3, -1, -1, -1, -1, -1, -1, -1, -1, -1, -1, 2, -1, 0, -1},
            {0, 3, -1, -1, -1, -1, -1, -1, -1, -1, -1, -1, -1, -1, -1, -1}};
        String[] behind = {"1230", "3012", "2301", "3210"};
        for (int lane = 0; lane < 3; lane++) {
            for (int i = 0; i < laid[0].length; i++) {
                int f = laid[lane + 1][i];
                String read = "read(1, " + lane + ", 1, 1)";
                Run x = b.told(Bounds.stairs(4)).makes("sheet(1, " + lane + ", 3)", "lay(1, 1, 9)")
                    .does("lay(1, 1, " + laid[0][i] + ")", 1);
                if (f < 0) {
                    x.asks(read, -20);
                } else {
                    x.does(read, 1).asks("woman(0)", behind[f].charAt(0) - '0').asks("woman(1)", behind[f].charAt(1) - '0');
                }
            }
        }
        b.nobody().makes("sheet(3, 0, 40)").does("lay(3, 0, 1)", 1).does("lay(3, 39, 1)", 1);

        b.said(38, "BAD: k;");
        b.rich().asks("lay(-1, 0, 0)", BAD).asks("lay(4, 0, 0)", BAD).asks("lay(4, -1, 0)", BAD);

        b.said(38, "-10 less the FAULT: NULL, INDEX.");
        b.rich().asks("lay(2, 0, 0)", -11).asks("lay(2, -1, 0)", -11).asks("lay(0, 3, 1)", -12).asks("lay(0, -1, 1)", -12)
            .asks("lay(1, 2, 1)", -12).asks("lay(3, 4, 1)", -12).asks("lay(3, MIN, 1)", -12).asks("lay(3, MAX, 1)", -12);
        b.nobody().makes("sheet(0, 0, 0)").asks("lay(0, 0, 0)", -12);
    }

    /** Up, mirror, down, waltz in the cells, of SHEET 2, of shorts. */
    private Run laid() {
        return b.told(Bounds.stairs(3)).makes("sheet(2, 1, 4)", "lay(2, 1, 3)", "lay(2, 2, 1)", "lay(2, 3, 2)");
    }

    private void read() {
        b.said(39, "n (0 to 20) times a FIGURE is read of a SHEET taken as of a lane, a CELL each from CELL f on, "
            + "one behind another as by dance(): how many were danced.");
        laid().asks("read(2, 1, 0, 0)", 0).asks("read(2, 1, 3, 0)", 0).does("read(2, 1, 0, 4)", 4).asks("rule(3)", 4)
            .asks("woman(0)", 2).asks("torn()", 0);
        laid().does("read(2, 1, 1, 1)", 1).asks("woman(0)", 2).asks("woman(1)", 1).asks("rule(3)", 1).asks("count(5)", 1)
            .does("read(2, 1, 3, 1)", 1).asks("woman(0)", 1).does("read(2, 1, 2, 2)", 2).asks("woman(0)", 2);
        b.told("plain 0 9;booted 0 9;hearth 0 9;").makes("sheet(0, 2, 20)").does("read(0, 2, 0, 20)", 20).asks("rule(3)", 20)
            .asks("man(0, 2)", 0).asks("man(1, 2)", 0).asks("man(2, 2)", 9);
        b.told("booted 0 9;").makes("sheet(0, 0, 40)").does("read(0, 0, 20, 20)", 20).asks("man(0, 2)", 0).asks("man(0, 3)", 9);
    }

    private void readByTheMachine() {
        b.said(39, "What the machine refuses: those that were whole ahead are (its FAULT is asked by torn()).");
        laid().does("read(2, 1, 3, 2)", 1).asks("torn()", 2).asks("rule(3)", 1).asks("woman(0)", 2);
        laid().does("read(2, 1, 0, 5)", 4).asks("torn()", 2).asks("rule(3)", 4).does("read(2, 1, 0, 4)", 4).asks("torn()", 0);
        laid().does("read(2, 1, 4, 1)", 0).asks("torn()", 2).asks("rule(3)", 0);
        laid().does("read(2, 1, -1, 2)", 0).asks("torn()", 2).asks("rule(3)", 0);
        laid().does("read(2, 1, MAX, 20)", 0).asks("torn()", 2).does("read(2, 1, MIN, 20)", 0).asks("torn()", 2)
            .asks("rule(3)", 0);
        laid().does("read(2, 0, 0, 4)", 0).asks("torn()", 3).does("read(2, 2, 0, 4)", 0).asks("torn()", 3)
            .does("read(2, 0, 9, 4)", 0).asks("torn()", 3).asks("rule(3)", 0);
        laid().does("read(0, 1, 0, 4)", 0).asks("torn()", 1).does("read(0, 0, -1, 4)", 0).asks("torn()", 1).asks("rule(3)", 0);
        laid().makes("sheet(2, 0, 0)").does("read(2, 0, 0, 1)", 0).asks("torn()", 2);
        // of what dance() would refuse the machine finds no CELL
        b.nobody().makes("sheet(0, 0, 1)").does("read(0, 0, 1, 1)", 0).asks("torn()", 2).does("read(1, 0, 0, 1)", 0)
            .asks("torn()", 1).does("read(0, 1, 0, 1)", 0).asks("torn()", 3);
        b.told("plain 0 0;").makes("sheet(0, 2, 40)").does("read(0, 2, 21, 20)", 19).asks("torn()", 2);
    }

    private void readRefused() {
        b.said(39, "BAD: k, lane, n;");
        b.rich().asks("read(-1, 0, 0, 1)", BAD).asks("read(4, 0, 0, 1)", BAD).asks("read(0, -1, 0, 1)", BAD)
            .asks("read(0, 3, 0, 1)", BAD).asks("read(0, 0, 0, -1)", BAD).asks("read(0, 0, 0, 21)", BAD)
            .asks("read(-1, 0, 0, 0)", BAD).asks("read(0, 3, 0, 0)", BAD);

        b.said(39, "-20 less i: the i-th is refused by dance() (in whichever way): then none is;");
        for (int i = 0; i < 4; i++) {
            laid().makes("lay(2, " + i + ", 4)").asks("read(2, 1, 0, 4)", -20 - i);
            laid().makes("lay(2, " + i + ", -1)").asks("read(2, 1, 0, 4)", -20 - i);
        }
        b.told("plain 0 9;").makes("sheet(0, 0, 40)", "lay(0, 39, 77)").asks("read(0, 0, 20, 20)", -39)
            .does("read(0, 0, 20, 19)", 19);
        b.nobody().makes("sheet(0, 0, 2)").asks("read(0, 0, 0, 2)", -20).asks("read(0, 0, 1, 1)", -20)
            .asks("read(0, 0, 0, 0)", 0);

        b.said(39, "the first met.");
        laid().makes("lay(2, 1, 4)", "lay(2, 3, 4)").asks("read(2, 1, 0, 4)", -21).asks("read(2, 1, 2, 2)", -21);
        // a FIGURE that there is not, ahead of a CELL that there is not; and behind it, of another lane
        laid().makes("lay(2, 3, 4)").asks("read(2, 1, 0, 20)", -23).does("read(2, 0, 3, 1)", 0).asks("torn()", 3);
    }

    private void torn() {
        b.said(40, "The FAULT of the latest read() that came to an end; 0.");
        b.nobody().asks("torn()", 0);
        Run x = laid();
        x.asks("torn()", 0).makes("read(2, 0, 0, 1)").asks("torn()", 3);
        // these came to none
        x.makes("lay(2, 3, 4)").asks("read(2, 1, 3, 1)", -20).asks("torn()", 3).asks("read(2, 1, 3, 21)", BAD)
            .asks("read(4, 1, 3, 1)", BAD).makes("read(2, 1, 3, 1)", "read(2, 1, 3, 21)").asks("torn()", 3);
        // nor do these ask the machine for torn()
        x.makes("lay(2, 9, 0)", "lay(0, 0, 0)", "sheet(0, 0, -1)", "text()").tells(Bounds.stairs(2)).asks("torn()", 3)
            .does("read(2, 1, 0, 1)", 1).asks("torn()", 0).does("read(0, 0, 0, 1)", 0).asks("torn()", 1)
            .does("read(2, 1, 4, 1)", 0).asks("torn()", 2).does("read(2, 1, 0, 0)", 0).asks("torn()", 0);
    }

    private void count() {
        b.said(41, "How many: 0 SEEN,");
        b.told(Bounds.stairs(2)).asks("count(0)", 0).makes("see(0, 0, 0)", "see(0, 0, 0)", "see(0, 0, 0)", "see(0, 0, 0)",
            "see(0, 0, 0)").asks("count(0)", 5).makes("see(0, 0, 0)").asks("count(0)", 6).makes("see(0, 0, 0)").asks("count(0)", 6);

        b.said(41, "1 IMAGES,");
        b.nobody().asks("count(1)", 0).makes("keep(1)").asks("count(1)", 1).makes("keep(1)").asks("count(1)", 1).makes("keep(0)")
            .asks("count(1)", 2).makes("back(0)").asks("count(1)", 2).makes("text()").asks("count(1)", 0);

        b.said(41, "2 bytes on THE TAPE,");
        b.nobody().asks("count(2)", 0).feeds(" ".repeat(159)).asks("count(2)", 159).makes("feed(32)").asks("count(2)", 160)
            .makes("feed(32)").asks("count(2)", 160).makes("text()").asks("count(2)", 0);

        b.said(41, "3 CELLS of SHEET 0 (NONE: nothing),");
        b.nobody().asks("count(3)", NONE).makes("sheet(1, 0, 5)", "sheet(3, 0, 5)").asks("count(3)", NONE).makes("sheet(0, 0, 0)")
            .asks("count(3)", 0).makes("sheet(0, 1, 40)").asks("count(3)", 40).makes("sheet(1, 1, 3)").asks("count(3)", 40)
            .makes("text()").asks("count(3)", 40);

        b.said(41, "4 all HEELS,");
        b.nobody().asks("count(4)", 0);
        b.told("plain 0 9;bent 0 9;booted 0 9;hearth 0 9;plain 0 9;").asks("count(4)", 45).makes("dance(0)").asks("count(4)", 42)
            .tells("plain 0 2;").asks("count(4)", 2).makes("dance(0)", "dance(0)", "dance(0)").asks("count(4)", 0);

        b.said(41, "5 all HEAT.");
        b.nobody().asks("count(5)", 0);
        b.told(Bounds.stairs(5)).asks("count(5)", 0).makes("alter(0, 3, 9)", "alter(1, 3, 9)", "alter(2, 3, 9)", "alter(3, 3, 9)",
            "alter(4, 3, 9)").asks("count(5)", 45).makes("dance(0)", "dance(1)").asks("count(5)", 45)
            .tells(Bounds.stairs(1)).asks("count(5)", 0).makes("dance(0)").asks("count(5)", 1);
    }

    private void countRefused() {
        b.said(41, "BAD.");
        b.rich().asks("count(-1)", BAD).asks("count(6)", BAD);
        b.nobody().asks("count(-1)", BAD).asks("count(6)", BAD);
    }
}
