/** The boundary cases of 'Terms': the answers, and what there may be of all. */
final class BoundsOfTerms {
    private static final int BAD = Bounds.BAD, STATE = Bounds.STATE, FULL = Bounds.FULL, NONE = Bounds.NONE;
    /** On rich(): where # stands, neither the least, nor -1, nor the greatest int is as told. */
    private static final String[] BOTH_WAYS = {"feed(#)", "end(#)", "rule(#)", "man(#, 0)", "man(0, #)", "woman(#)", "at(#)",
        "figure(#)", "cousins(#)", "alter(#, 0, 0)", "alter(0, #, 0)", "alter(0, 0, #)", "alter(0, 1, #)", "alter(0, 2, #)",
        "alter(0, 3, #)", "swap(#, 0)", "swap(0, #)", "kin(#, 0, true)", "kin(0, #, true)", "kin(#, 3, false)",
        "kin(0, #, false)", "plan(#)", "cut(#)", "dance(#)", "runs(#)", "ahead(#, 0)", "ahead(0, #)", "meets(#, 0)",
        "meets(0, #)", "never(#)", "period(#)", "best(#, 0)", "again(#)", "coins(#)", "luck(#, 0, 0)", "luck(5, #, 0)",
        "luck(5, 0, #)", "mean(#, 0)", "mean(5, #)", "see(#, 0, 0)", "see(0, #, 0)", "see(0, 0, #)", "forget(#)", "heights(#)",
        "shoes(#)", "drift(1, #, 0)", "drift(1, 1, #)", "keep(#)", "back(#)", "sheet(#, 0, 1)", "sheet(0, #, 1)", "lay(#, 0, 0)",
        "read(#, 0, 0, 1)", "read(0, #, 0, 1)", "read(0, 0, 0, #)", "count(#)"};
    /** Likewise, but the greatest int has another answer. */
    private static final String[] BELOW = {"best(2, #)", "orders(#)"};

    private final Bounds b;

    BoundsOfTerms(Bounds b) {
        this.b = b;
    }

    private void said(String words) {
        b.said(Doc.TERMS, words);
    }

    void test() {
        calls();
        answers();
        firstThatFits();
        refusedChangesNothing();
        fractions();
        men();
        cousinsAndProgram();
        statures();
        ranks();
        figure();
        wear();
        heatAndDanced();
        byTheProgram();
        seen();
        sheets();
    }

    private void calls() {
        b.said(Doc.INTRO, "An object is used for at most 512 calls after it has been made; what later calls answer is free.");
        HeelDance x = Check.told(Bounds.stairs(2));
        // that were 20 bytes and text()
        for (int call = 22; call < 512; call++) {
            b.due("dance(0)", x.dance(0), call % 2 == 0 ? 0 : 2);
        }
        b.due("the 512th, rule(3)", x.rule(3), 490);
    }

    private void answers() {
        said("Answers: BAD -1 (a number is not as told, there is no such MAN, WOMAN, FIGURE, IMAGE, SHEET),");
        b.due("BAD", BAD, -1);
        b.rich().asks("drift(1, 0, 0)", BAD).asks("man(4, 0)", BAD).asks("woman(4)", BAD).asks("figure(3)", BAD)
            .asks("dance(4)", BAD).asks("back(2)", BAD).asks("lay(4, 0, 0)", BAD);

        said("STATE -2 (as told),");
        b.due("STATE", STATE, -2);
        b.rich().asks("back(1)", STATE);

        said("FULL -3,");
        b.due("FULL", FULL, -3);
        b.rich().makes("plan(0)", "plan(0)", "plan(0)", "plan(0)").does("plan(0)", 8).asks("plan(0)", FULL);

        said("NONE -4 (there is none),");
        b.due("NONE", NONE, -4);
        b.told(Bounds.stairs(2)).asks("meets(0, 1)", NONE);
    }

    private void firstThatFits() {
        said("the first that fits;");
        b.nobody().asks("dance(4)", BAD).asks("drift(1, 61, 0)", BAD).asks("drift(1, 1, 2)", BAD).asks("back(2)", BAD)
            .asks("period(4)", BAD).asks("shoes(2)", BAD).asks("again(2)", BAD).asks("coins(1)", BAD);
        Run six = b.told(Bounds.stairs(3) + Bounds.SIX_COUSINS + "program up up up up up up;");
        six.asks("orders(2)", BAD).asks("coins(8)", BAD).asks("kin(3, 0, true)", BAD).asks("kin(0, 3, true)", BAD);
        // by each order there is a MEETING, and a place 9 there is not: NONE, if STATE were not ahead of it
        six.asks("orders(1)", STATE).asks("orders(10)", STATE).asks("orders(19)", STATE);
        // five FIGURES of these have none either, whatever is paid
        b.told(Bounds.stairs(2) + "program up up up up waltz;").makes("swap(0, 1)").asks("coins(1)", 1)
            .makes("cut(0)", "plan(2)").asks("coins(1)", NONE).makes("plan(2)", "plan(2)", "plan(2)", "plan(2)")
            .asks("coins(1)", NONE).makes("plan(2)").asks("coins(1)", STATE);
        b.told(Bounds.stairs(3) + Bounds.SIX_COUSINS).asks("best(5, 0)", BAD).asks("best(1, 9)", BAD).asks("best(1, 10)", NONE);
        b.nobody().feeds(" ".repeat(160)).asks("feed(128)", BAD).asks("feed(-1)", BAD);
        b.told("program up up up up up up up up;").asks("plan(4)", BAD).asks("plan(-1)", BAD);
        b.told(Bounds.stairs(2)).makes("see(0, 0, 0)", "see(0, 0, 0)", "see(0, 0, 0)", "see(0, 0, 0)", "see(0, 0, 0)",
            "see(0, 0, 0)").asks("see(0, 0, 2)", BAD).asks("see(0, 9, 0)", BAD).asks("see(2, 0, 0)", BAD);
        b.nobody().asks("sheet(0, 3, -1)", BAD).asks("sheet(4, 0, -1)", BAD).asks("lay(4, -1, 0)", BAD)
            .asks("lay(0, -1, 0)", -11).asks("read(4, 0, -1, 1)", BAD).asks("read(0, 3, -1, 1)", BAD)
            .asks("read(0, 0, -1, 21)", BAD);
    }

    private void refusedChangesNothing() {
        said("what is refused changes nothing (but THE TAPE, as told).");
        Run rich = b.rich();
        for (String call : BOTH_WAYS) {
            for (String number : new String[] {"MIN", "-1", "MAX"}) {
                rich.asks(call.replace("#", number), BAD);
            }
        }
        for (String call : BELOW) {
            rich.asks(call.replace("#", "MIN"), BAD).asks(call.replace("#", "-1"), BAD);
        }
        rich.asks("swap(1, 1)", BAD).asks("sheet(0, 0, MAX)", BAD).asks("sheet(0, 1, MIN)", -14).asks("lay(0, MIN, 1)", -12)
            .asks("lay(0, MAX, 1)", -12).asks("lay(2, 0, 1)", -11).asks("back(1)", STATE);
        rich.makes("lay(3, 3, 4)").asks("read(3, 2, 0, 4)", -23);
        rich.faulty("hearth 1 1;program up", 21, 2).asks("count(2)", 0);
    }

    private void fractions() {
        said("Fractions are in lowest terms, the denominator above 0 (0 is 0 by 1).");
        // by the mirror WOMAN 0 is ROUND if MAN 0's HEELS hold, WOMAN 1 if they break, WOMAN 2 never
        b.told("plain 0 4;plain 2 0;plain 9 0;program mirror;")
            .asks("luck(8, 1, 0)", 4).asks("luck(8, 1, 1)", 5).asks("luck(3, 1, 0)", 3).asks("luck(3, 1, 1)", 10)
            .asks("luck(3, 2, 0)", 0).asks("luck(3, 2, 1)", 1).asks("luck(10, 1, 0)", 1).asks("luck(10, 1, 1)", 1)
            .asks("luck(0, 1, 0)", 0).asks("luck(0, 1, 1)", 1);
        b.nobody().asks("mean(3, 0)", 0).asks("mean(3, 1)", 1);
    }

    private void men() {
        said("MEN 0 on (5 at most, by order),");
        Run five = b.told("plain 5 0;plain 3 0;plain 9 0;plain 1 0;plain 7 0;");
        five.asks("rule(0)", 5).asks("man(0, 1)", 5).asks("man(1, 1)", 3).asks("man(2, 1)", 9).asks("man(3, 1)", 1)
            .asks("man(4, 1)", 7).asks("man(5, 1)", BAD);
        five.faulty(Bounds.stairs(5) + "plain 0 0;", 50, 5);

        said("each of a KIND (0 plain, 1 booted, 2 bent, 3 hearth),");
        b.told("hearth 0 0;bent 0 0;booted 0 0;plain 0 0;")
            .asks("man(0, 0)", 3).asks("man(1, 0)", 2).asks("man(2, 0)", 1).asks("man(3, 0)", 0)
            .asks("alter(3, 0, 4)", BAD).asks("alter(3, 0, -1)", BAD).does("alter(3, 0, 3)", 0).does("alter(3, 0, 0)", 3);

        said("with a HEIGHT (0 to 9), HEELS (0 to 9), HEAT (0 to 9; 0 at first).");
        Run ends = b.told("plain 0 9;plain 9 0;");
        ends.asks("man(0, 1)", 0).asks("man(0, 2)", 9).asks("man(1, 1)", 9).asks("man(1, 2)", 0).asks("man(0, 3)", 0)
            .asks("man(1, 3)", 0);
        for (int what = 1; what <= 3; what++) {
            ends.asks("alter(0, " + what + ", -1)", BAD).asks("alter(0, " + what + ", 10)", BAD)
                .makes("alter(0, " + what + ", 9)").does("alter(0, " + what + ", 0)", 9).does("alter(0, " + what + ", 9)", 0);
        }
        ends.faulty("plain 10 0;", 6, 3).faulty("plain 0 10;", 8, 3);

        said("As many WOMEN, WOMAN w came with MAN w and is with him at first.");
        for (int men = 0; men <= 5; men++) {
            Run told = b.told(Bounds.stairs(men));
            for (int w = 0; w < men; w++) {
                told.asks("woman(" + w + ")", w).asks("man(" + w + ", 6)", w);
            }
            told.asks("woman(" + men + ")", BAD).asks("rule(4)", (1 << men) - 1);
        }
    }

    private void cousinsAndProgram() {
        said("COUSINS (6 at most): a WOMAN and a MAN.");
        // WOMAN 1 and MAN 2 are, WOMAN 2 and MAN 1 not
        Run six = b.told(Bounds.stairs(3) + Bounds.SIX_COUSINS);
        six.asks("rule(1)", 6).asks("cousins(0)", 7).asks("cousins(1)", 7).asks("cousins(2)", 0)
            .asks("kin(2, 1, true)", FULL).faulty(Bounds.stairs(3) + Bounds.SIX_COUSINS + "cousins 2 1;", 102, 5);

        said("DANCED: how many FIGURES so far (0).");
        b.nobody().asks("rule(3)", 0);
        b.told(Bounds.stairs(2)).asks("rule(3)", 0).makes("dance(2)").asks("rule(3)", 1).makes("dance(0)").asks("rule(3)", 2)
            .tells(Bounds.stairs(1)).asks("rule(3)", 0);

        said("THE PROGRAM: FIGURES, one behind another (8 at most): 0 up, 1 down, 2 waltz, 3 mirror.");
        Run eight = b.told("program mirror waltz down up up down waltz mirror;");
        int[] figures = {3, 2, 1, 0, 0, 1, 2, 3};
        for (int i = 0; i < 8; i++) {
            eight.asks("figure(" + i + ")", figures[i]);
        }
        eight.asks("rule(2)", 8).asks("figure(8)", BAD).asks("plan(0)", FULL)
            .faulty("program up up up up up up up up up;", 32, 5);
    }

    private void statures() {
        said("STATURE: HEIGHT and HEELS; bent 2 less; hearth 3 more.");
        b.told("plain 0 0;booted 0 0;bent 0 0;hearth 0 0;")
            .asks("man(0, 4)", 2).asks("man(1, 4)", 2).asks("man(2, 4)", 0).asks("man(3, 4)", 5);
        b.told("plain 9 9;booted 9 9;bent 9 9;hearth 9 9;")
            .asks("man(0, 4)", 20).asks("man(1, 4)", 20).asks("man(2, 4)", 18).asks("man(3, 4)", 23);
        // one below 0 is smaller than 0
        b.told("plain 0 0;bent 1 0;bent 0 0;").asks("at(0)", 2).asks("at(1)", 1).asks("at(2)", 0);
    }

    private void ranks() {
        said("RANK 0 on: MEN by STATURE, the smallest first;");
        b.told("hearth 9 9;plain 5 0;bent 0 0;booted 0 4;hearth 0 3;")
            .asks("at(0)", 2).asks("at(1)", 3).asks("at(2)", 1).asks("at(3)", 4).asks("at(4)", 0)
            .asks("man(0, 5)", 4).asks("man(1, 5)", 2).asks("man(2, 5)", 0).asks("man(3, 5)", 1).asks("man(4, 5)", 3)
            .makes("alter(0, 3, 9)").asks("man(0, 5)", 4);

        said("of one STATURE he with more HEAT first,");
        Run alike = b.told("plain 4 1;plain 5 0;bent 5 2;hearth 2 0;");
        alike.makes("alter(3, 3, 2)", "alter(1, 3, 1)").asks("at(0)", 3).asks("at(1)", 1).asks("at(2)", 0).asks("at(3)", 2)
            .makes("alter(1, 3, 3)").asks("at(0)", 1).asks("at(1)", 3);

        said("of one HEAT the lesser one.");
        alike.makes("alter(2, 3, 3)").asks("at(0)", 1).asks("at(1)", 2).asks("at(2)", 3).asks("at(3)", 0);
        b.told("bent 9 1;plain 8 0;hearth 5 0;booted 4 4;plain 0 8;")
            .asks("at(0)", 0).asks("at(1)", 1).asks("at(2)", 2).asks("at(3)", 3).asks("at(4)", 4);
    }

    private void figure() {
        said("A FIGURE: each WOMAN goes from a MAN of RANK r to that of RANK: up: r and 1; down: r less 1; waltz: r and 2, "
            + "all modulo MEN; mirror: MEN less 1 less r.");
        String[][] men = {
            {"0", "0", "0", "0"},
            {"10", "10", "01", "10"},
            {"120", "201", "201", "210"},
            {"1230", "3012", "2301", "3210"},
            {"12340", "40123", "23401", "43210"}};
        for (int n = 1; n <= 5; n++) {
            for (int f = 0; f < 4; f++) {
                Run danced = b.told(Bounds.stairs(n)).makes("dance(" + f + ")");
                for (int w = 0; w < n; w++) {
                    danced.asks("woman(" + w + ")", men[n - 1][f].charAt(w) - '0');
                }
            }
        }
    }

    private void wear() {
        said("Then HEELS wear: plain, bent: 1 less; booted: 1 less, if DANCED was odd ahead of it; hearth: not; 0 at least.");
        String[] kinds = {"plain", "booted", "bent", "hearth"};
        int[][] worn = {{1, 2, 3, 4}, {0, 1, 1, 2}, {1, 2, 3, 4}, {0, 0, 0, 0}};
        for (int kind = 0; kind < 4; kind++) {
            for (int heels : new int[] {0, 1, 2, 9}) {
                Run alone = b.told(kinds[kind] + " 5 " + heels + ";");
                for (int times = 0; times < 4; times++) {
                    alone.makes("dance(0)").asks("man(0, 2)", Math.max(0, heels - worn[kind][times]));
                }
            }
        }
        // of STATURE 4, 3, 9 ahead of it, 3, 3, 9 behind it
        b.told("plain 1 3;hearth 0 0;plain 9 0;").asks("at(0)", 1).makes("dance(0)").asks("woman(0)", 2).asks("woman(1)", 0)
            .asks("woman(2)", 1).asks("at(0)", 0);
    }

    private void heatAndDanced() {
        said("Then each MAN who is with the WOMAN he came with has 1 HEAT more (9 at most).");
        b.told(Bounds.stairs(3)).makes("dance(3)").asks("man(0, 3)", 0).asks("man(1, 3)", 1).asks("man(2, 3)", 0)
            .makes("alter(0, 3, 8)", "alter(1, 3, 9)", "dance(3)").asks("man(0, 3)", 9).asks("man(1, 3)", 9)
            .asks("man(2, 3)", 1).makes("dance(0)", "dance(1)").asks("man(0, 3)", 9).asks("man(2, 3)", 2);

        said("DANCED is 1 more (999 at most).");
        Run long998 = b.told("booted 0 9;").makes("sheet(0, 0, 20)");
        for (int i = 0; i < 49; i++) {
            long998.makes("read(0, 0, 0, 20)");
        }
        long998.asks("rule(3)", 980).does("read(0, 0, 0, 18)", 18).asks("rule(3)", 998).makes("keep(0)", "dance(2)")
            .asks("rule(3)", 999).makes("dance(0)").asks("rule(3)", 999).makes("read(0, 0, 0, 20)").asks("rule(3)", 999)
            .does("back(0)", 998).does("read(0, 0, 0, 2)", 2).asks("rule(3)", 999);
        // at 998 boots don't wear, at 999 they do, each time
        long998.makes("back(0)", "alter(0, 2, 9)", "dance(0)").asks("man(0, 2)", 9).makes("dance(0)").asks("man(0, 2)", 8)
            .makes("dance(0)").asks("man(0, 2)", 7);
    }

    private void byTheProgram() {
        said("ROUND is a WOMAN who is with the MAN she came with.");
        b.told(Bounds.stairs(3)).asks("rule(4)", 7).makes("swap(0, 2)").asks("rule(4)", 2).makes("swap(1, 0)").asks("rule(4)", 0)
            .makes("swap(0, 1)", "swap(0, 2)").asks("rule(4)", 7);

        said("BY THE PROGRAM: its FIGURES from now on.");
        b.told(Bounds.stairs(3) + "program up;").asks("ahead(0, 1)", 1).makes("dance(0)").asks("ahead(0, 0)", 1)
            .asks("ahead(0, 1)", 2).makes("cut(0)").asks("ahead(0, 1)", 1).asks("runs(1)", 0);

        said("A MEETING: behind one of these a WOMAN is with her COUSIN.");
        // now is none; behind the last FIGURE may be one; MAN 0 and WOMAN 2 are no COUSINS
        b.told(Bounds.stairs(3) + "cousins 0 0;cousins 0 2;program up;").asks("runs(2)", 0).makes("plan(0)").asks("runs(2)", 1)
            .asks("runs(3)", 2).makes("plan(0)").asks("runs(2)", 2);
    }

    private void seen() {
        said("SEEN (6): behind k FIGURES of THE PROGRAM (0 to 8; behind more than there are: as behind the last one) "
            + "a WOMAN is with a MAN.");
        Run six = b.told(Bounds.stairs(3) + "program up up;");
        String[] as = {"see(0, 0, 0)", "see(0, 1, 1)", "see(0, 2, 2)", "see(0, 3, 2)", "see(0, 8, 2)", "see(1, 8, 0)"};
        for (int i = 0; i < 6; i++) {
            six.does(as[i], i + 1).asks("shoes(1)", 3);
        }
        six.asks("see(1, 8, 0)", FULL).asks("see(0, 9, 2)", BAD).asks("see(0, -1, 2)", BAD);
        String[] not = {"see(0, 0, 1)", "see(0, 1, 0)", "see(0, 2, 1)", "see(0, 3, 0)", "see(0, 8, 1)", "see(1, 8, 1)"};
        for (String call : not) {
            six.makes("forget(0)").does(call, 1).asks("shoes(1)", 0);
        }
        b.told(Bounds.stairs(2)).makes("see(1, 8, 1)").asks("shoes(1)", 1);
        // behind the 8th FIGURE, and not behind the 7th
        b.told(Bounds.stairs(3) + "program up up up up up up up up;").makes("see(0, 7, 1)", "see(0, 8, 2)").asks("shoes(1)", 3);
    }

    private void sheets() {
        said("SHEETS 0 to 3 are rows of BYTES (lane 0), SHORTS (1), INTS (2) with 0 to 40 CELLS, or nothing (at first).");
        Run few = b.told(Bounds.stairs(2));
        few.asks("sheet(-1, 0, 0)", BAD).asks("sheet(4, 0, 0)", BAD).asks("sheet(0, -1, 0)", BAD).asks("sheet(0, 3, 0)", BAD)
            .asks("sheet(0, 0, 41)", BAD);
        for (int k = 0; k < 4; k++) {
            few.asks("lay(" + k + ", 0, 0)", -11);
        }
        for (int k = 0; k < 4; k++) {
            for (int lane = 0; lane < 3; lane++) {
                few.does("sheet(" + k + ", " + lane + ", 0)", 1).asks("lay(" + k + ", 0, 0)", -12)
                    .does("sheet(" + k + ", " + lane + ", 40)", 1).does("lay(" + k + ", 39, 1)", 1)
                    .asks("lay(" + k + ", 40, 1)", -12).does("read(" + k + ", " + lane + ", 39, 1)", 1);
            }
        }

        said("A FAULT is what the machine finds: 1 NULL (nothing), 2 INDEX, 3 CAST (another lane), 4 SIZE (below 0).");
        b.told(Bounds.stairs(2)).asks("lay(0, 0, 0)", -11).asks("sheet(0, 0, -1)", -14).does("read(0, 0, 0, 1)", 0)
            .asks("torn()", 1).makes("sheet(0, 1, 2)").asks("lay(0, 2, 0)", -12).asks("lay(0, -1, 0)", -12)
            .does("read(0, 1, 2, 1)", 0).asks("torn()", 2).does("read(0, 1, -1, 1)", 0).asks("torn()", 2)
            .does("read(0, 0, 0, 1)", 0).asks("torn()", 3).does("read(0, 2, 0, 1)", 0).asks("torn()", 3)
            .does("read(0, 1, 1, 1)", 1).asks("torn()", 0);
    }
}
