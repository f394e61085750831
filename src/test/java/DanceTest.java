/** Promises 17 to 22: the dance. */
public final class DanceTest {
    private static final Check CHECK = new Check("DanceTest");
    /** Three whose ranks are their numbers, whatever comes. */
    private static final String STAIRS = "plain 0 0;plain 4 0;plain 8 0;";

    private static void due(String call, long got, long want) {
        CHECK.due(call, got, want);
    }

    public static void main(String[] args) {
        figures();
        wear();
        heat();
        ranksBeforeWear();
        danced();
        runs();
        ahead();
        meetsAndNever();
        period();
        fiveAndFewer();
        CHECK.close();
    }

    private static void paired(String call, HeelDance x, int... men) {
        for (int w = 0; w < men.length; w++) {
            due(call + " woman(" + w + ")", x.woman(w), men[w]);
        }
    }

    private static void figures() {
        HeelDance x = Check.told(STAIRS);
        due("17 up", x.dance(0), 0);
        paired("17 up", x, 1, 2, 0);
        due("17 down", x.dance(1), 3);
        paired("17 down", x, 0, 1, 2);
        due("17 waltz", x.dance(2), 0);
        paired("17 waltz", x, 2, 0, 1);
        due("17 waltz", x.dance(2), 0);
        due("17 waltz", x.dance(2), 3);
        due("17 mirror", x.dance(3), 1);
        paired("17 mirror", x, 2, 1, 0);
        due("17 danced", x.rule(3), 6);
        due("17 dance(-1)", x.dance(-1), HeelDance.BAD);
        due("17 dance(4)", x.dance(4), HeelDance.BAD);
        due("17 danced", x.rule(3), 6);
        HeelDance nobody = new HeelDance();
        due("17 nobody", nobody.dance(0), HeelDance.STATE);
        due("17 nobody, no figure", nobody.dance(4), HeelDance.BAD);
        HeelDance alone = Check.told("bent 0 0;");
        for (int f = 0; f < 4; f++) {
            due("17 alone", alone.dance(f), 1);
        }
        HeelDance two = Check.told("plain 1 0;plain 0 0;");
        due("17 a waltz of two", two.dance(2), 2);
        due("17 up of two", two.dance(0), 0);
        due("17 down of two", two.dance(1), 2);
    }

    private static void wear() {
        HeelDance x = Check.told("plain 0 2;booted 9 2;bent 3 2;hearth 4 2;");
        int[][] heels = {{1, 2, 1, 2}, {0, 1, 0, 2}, {0, 1, 0, 2}, {0, 0, 0, 2}, {0, 0, 0, 2}};
        for (int i = 0; i < heels.length; i++) {
            x.dance(0);
            for (int m = 0; m < 4; m++) {
                due("17 heels of " + m + " behind " + (i + 1), x.man(m, 2), heels[i][m]);
            }
        }
    }

    private static void heat() {
        HeelDance x = Check.told(STAIRS);
        x.dance(3);
        due("17 heat", x.man(0, 3), 0);
        due("17 heat", x.man(1, 3), 1);
        x.dance(3);
        due("17 heat", x.man(0, 3), 1);
        due("17 heat", x.man(1, 3), 2);
        due("17 heat", x.man(2, 3), 1);
        HeelDance alone = Check.told("plain 0 0;");
        for (int i = 1; i <= 12; i++) {
            alone.dance(0);
            due("17 heat at most 9", alone.man(0, 3), Math.min(i, 9));
        }
    }

    private static void ranksBeforeWear() {
        // 4, 3, 9 ahead of the first figure, 3, 3, 9 behind it
        HeelDance x = Check.told("plain 1 3;hearth 0 0;plain 9 0;");
        x.dance(0);
        paired("17 up", x, 2, 0, 1);
        due("17 now the lesser is first", x.at(0), 0);
        x.dance(1);
        paired("17 down", x, 1, 2, 0);
    }

    private static void danced() {
        HeelDance x = Check.told("booted 0 0;");
        x.sheet(0, 0, 20);
        for (int i = 1; i <= 51; i++) {
            x.read(0, 0, 0, 20);
            due("17 danced", x.rule(3), Math.min(20 * i, 999));
        }
        x.alter(0, 2, 5);
        x.dance(0);
        due("17 999 is odd", x.man(0, 2), 4);
        x.dance(0);
        due("17 and stays", x.man(0, 2), 3);
        due("17 danced", x.rule(3), 999);
    }

    private static void runs() {
        HeelDance x = Check.told(STAIRS + "program up up down;cousins 0 1;cousins 1 2;cousins 2 2;");
        due("18 runs(0)", x.runs(0), 0);
        due("18 runs(1)", x.runs(1), 0);
        due("18 runs(2)", x.runs(2), 4);
        due("18 runs(3)", x.runs(3), 1);
        due("18 runs(4)", x.runs(4), 0);
        due("18 runs(-1)", x.runs(-1), HeelDance.BAD);
        due("18 runs(5)", x.runs(5), HeelDance.BAD);
        due("18 nothing is danced", x.rule(3), 0);
        due("18 nothing is danced", x.woman(0), 0);
        x.cut(1);
        x.plan(1);
        due("18 runs(0)", x.runs(0), 3);
        due("18 runs(1)", x.runs(1), 7);
        HeelDance later = Check.told(STAIRS + "program up up mirror;cousins 0 0;cousins 0 2;");
        due("18 now is no meeting", later.runs(3), 2);
        // behind mirror she is with man 0
        due("18 meetings", later.runs(2), 2);
        due("18 which", later.runs(1), 1);
        HeelDance last = Check.told(STAIRS + "program up up;cousins 0 2;");
        due("18 behind the last", last.runs(3), 2);
        due("18 behind the last", last.runs(2), 1);
        HeelDance none = Check.told(STAIRS + "cousins 0 0;");
        due("18 no figures", none.runs(2), 0);
        due("18 no figures", none.runs(3), HeelDance.NONE);
        due("18 no figures", none.runs(1), 7);
        HeelDance heels = Check.told("plain 0 5;hearth 9 4;program up up;");
        due("18 heels", heels.runs(4), 7);
        due("18 heels as they are", heels.count(4), 9);
        HeelDance nobody = Check.told("program up;");
        int[] due = {0, 0, 0, HeelDance.NONE, 0};
        for (int what = 0; what < 5; what++) {
            due("18 nobody", nobody.runs(what), due[what]);
        }
    }

    private static void ahead() {
        HeelDance x = Check.told(STAIRS + "program up up down;");
        int[] men = {0, 1, 2, 1, 1, 1, 1, 1, 1};
        for (int k = 0; k <= 8; k++) {
            due("19 ahead(0, " + k + ")", x.ahead(0, k), men[k]);
        }
        due("19 ahead(1, 2)", x.ahead(1, 2), 0);
        due("19 k", x.ahead(0, -1), HeelDance.BAD);
        due("19 k", x.ahead(0, 9), HeelDance.BAD);
        due("19 w", x.ahead(-1, 0), HeelDance.BAD);
        due("19 w", x.ahead(3, 0), HeelDance.BAD);
        x.dance(0);
        due("19 from now on", x.ahead(0, 1), 2);
    }

    private static void meetsAndNever() {
        due("21 first asked", Check.told(STAIRS + "program up;").never(2), 2);
        HeelDance x = Check.told(STAIRS + "program up up down;");
        due("20 meets(0, 0)", x.meets(0, 0), 0);
        due("20 meets(0, 1)", x.meets(0, 1), 1);
        due("20 meets(0, 2)", x.meets(0, 2), 2);
        due("21 never(0)", x.never(0), 0);
        x.cut(1);
        due("20 meets(0, 2)", x.meets(0, 2), HeelDance.NONE);
        due("21 never(0)", x.never(0), 4);
        due("21 never(1)", x.never(1), 1);
        x.cut(0);
        due("20 meets(1, 1)", x.meets(1, 1), 0);
        due("21 never(0)", x.never(0), 6);
        due("20 w", x.meets(3, 0), HeelDance.BAD);
        due("20 w", x.meets(-1, 0), HeelDance.BAD);
        due("20 m", x.meets(0, 3), HeelDance.BAD);
        due("20 m", x.meets(0, -1), HeelDance.BAD);
        due("21 w", x.never(3), HeelDance.BAD);
        due("21 w", x.never(-1), HeelDance.BAD);
    }

    /** The most there may be, and then fewer: nothing of the others is left. */
    private static void fiveAndFewer() {
        HeelDance x = Check.told("plain 0 0;hearth 1 1;plain 4 3;hearth 6 1;hearth 6 2;cousins 4 4;program up down;");
        due("18 five", x.runs(1), 31);
        due("18 five", x.runs(2), 1);
        due("18 five", x.runs(3), 2);
        due("18 five", x.runs(4), 5);
        due("19 five", x.ahead(4, 1), 0);
        due("21 five", x.never(0), 28);
        due("26 five", x.coins(31), 0);
        due("28 five", x.mean(0, 0), 5);
        due("31 five", x.bent(), 31);
        due("33 five", x.shoes(1), 10);
        due("17 five", x.dance(0), 0);
        due("17 five", x.dance(1), 5);
        due("41 five", x.count(4), 5);
        due("41 five", x.count(5), 5);
        due("7 five", x.man(4, 6), 4);
        due("4 one", Check.tell(x, "plain 1 2;program mirror;"), 2);
        due("18 one", x.runs(1), 1);
        due("18 one", x.runs(2), 0);
        due("18 one", x.runs(4), 1);
        due("41 one", x.count(4), 2);
        due("41 one", x.count(5), 0);
        due("33 one", x.shoes(0), HeelDance.NONE);
        due("6 one", x.rule(1), 0);
    }

    private static void period() {
        int[][] due = {{-4, -4, -4, -4}, {1, 1, 1, 1}, {2, 2, 1, 2}, {3, 3, 3, 2}, {4, 4, 2, 2}, {5, 5, 5, 2}};
        StringBuilder text = new StringBuilder();
        for (int men = 0; men <= 5; men++) {
            HeelDance x = Check.told(text.toString());
            for (int f = 0; f < 4; f++) {
                due("22 period(" + f + ") of " + men, x.period(f), due[men][f]);
            }
            due("22 period(-1)", x.period(-1), HeelDance.BAD);
            due("22 period(4)", x.period(4), HeelDance.BAD);
            due("22 nothing is danced", x.rule(3), 0);
            text.append("plain 4 ").append(2 * men).append(";");
        }
        HeelDance worn = Check.told("plain 1 3;hearth 0 0;plain 9 0;");
        worn.swap(0, 2);
        due("22 nothing wears", worn.period(0), 3);
        due("22 as they are now", worn.woman(0), 2);
    }
}
