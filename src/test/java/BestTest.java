/** Promises 23 to 26: what is best. */
public final class BestTest {
    private static final Check CHECK = new Check("BestTest");
    private static final String STAIRS = "plain 0 0;plain 4 0;plain 8 0;";

    private static void due(String call, long got, long want) {
        CHECK.due(call, got, want);
    }

    public static void main(String[] args) {
        best();
        orders();
        again();
        coins();
        CHECK.close();
    }

    private static void best() {
        HeelDance x = Check.told(STAIRS + "program up;");
        due("23 best(0, 0)", x.best(0, 0), 3);
        due("23 best(0, 10)", x.best(0, 10), HeelDance.NONE);
        due("23 best(1, 0)", x.best(1, 0), 1);
        due("23 best(1, 10)", x.best(1, 10), 3);
        due("23 best(1, 11)", x.best(1, 11), HeelDance.NONE);
        due("23 best(2, 0)", x.best(2, 0), 3);
        due("23 best(2, 10)", x.best(2, 10), 0);
        due("23 best(2, 11)", x.best(2, 11), 1);
        due("23 best(2, 12)", x.best(2, 12), HeelDance.NONE);
        due("23 best(3, 0)", x.best(3, 0), 3);
        for (int i = 0; i < 3; i++) {
            due("23 best(3, 1" + i + ")", x.best(3, 10 + i), 0);
        }
        due("23 best(4, 11)", x.best(4, 11), 0);
        due("23 best(4, 12)", x.best(4, 12), 1);
        due("23 best(4, 13)", x.best(4, 13), 1);
        due("23 best(4, max)", x.best(4, Integer.MAX_VALUE), HeelDance.NONE);
        due("23 n", x.best(-1, 0), HeelDance.BAD);
        due("23 n", x.best(5, 0), HeelDance.BAD);
        due("23 what", x.best(2, -1), HeelDance.BAD);
        due("23 what", x.best(2, 1), HeelDance.BAD);
        due("23 what", x.best(2, 9), HeelDance.BAD);
        due("23 nothing is danced", x.rule(3), 0);
        x.kin(0, 1, true);
        due("23 best(2, 0)", x.best(2, 0), 3);
        due("23 best(2, 10)", x.best(2, 10), 1);
        due("23 best(2, 11)", x.best(2, 11), 0);
        x.kin(0, 0, true);
        x.kin(0, 2, true);
        due("23 now is no meeting", x.best(0, 0), 3);
        due("23 all meet", x.best(1, 0), HeelDance.NONE);
        due("23 all meet", x.best(1, 10), HeelDance.NONE);
        due("23 all meet", x.best(4, 0), HeelDance.NONE);
        HeelDance nobody = new HeelDance();
        due("23 nobody", nobody.best(2, 0), 0);
        due("23 nobody", nobody.best(2, 11), 0);
    }

    private static void orders() {
        HeelDance x = Check.told(STAIRS + "program up down up;");
        due("24 orders(0)", x.orders(0), 6);
        due("24 orders(1)", x.orders(1), 0);
        for (int i = 0; i < 3; i++) {
            due("24 orders(1" + i + ")", x.orders(10 + i), i);
        }
        due("24 orders(13)", x.orders(13), HeelDance.NONE);
        x.kin(0, 2, true);
        due("24 orders(0)", x.orders(0), 2);
        HeelDance y = Check.told(STAIRS + "program down up;cousins 0 2;");
        due("24 orders(0)", y.orders(0), 1);
        due("24 orders(1)", y.orders(1), 3);
        due("24 orders(10)", y.orders(10), 1);
        due("24 orders(11)", y.orders(11), 0);
        due("24 orders(12)", y.orders(12), HeelDance.NONE);
        due("24 what", y.orders(-1), HeelDance.BAD);
        due("24 what", y.orders(2), HeelDance.BAD);
        due("24 what", y.orders(9), HeelDance.BAD);
        y.kin(0, 1, true);
        due("24 none", y.orders(0), 0);
        due("24 none", y.orders(1), HeelDance.NONE);
        due("24 none", y.orders(10), HeelDance.NONE);
        y.cut(0);
        due("24 no figures", y.orders(0), 1);
        due("24 no figures", y.orders(1), 3);
        due("24 no figures", y.orders(10), HeelDance.NONE);
        HeelDance many = Check.told(STAIRS + "program up up up up up;");
        due("24 five", many.orders(0), 120);
        due("24 five", many.orders(14), 4);
        many.plan(0);
        due("24 six", many.orders(0), HeelDance.STATE);
        due("24 six", many.orders(1), HeelDance.STATE);
        due("24 six", many.orders(10), HeelDance.STATE);
        due("24 six, what", many.orders(5), HeelDance.BAD);
        HeelDance nobody = Check.told("program up mirror;");
        due("24 nobody", nobody.orders(0), 2);
        due("24 nobody", nobody.orders(1), 0);
        due("24 nobody", nobody.orders(11), 1);
    }

    private static void againIs(String program, int place, int round) {
        HeelDance x = Check.told(program);
        due("25 place in " + program, x.again(0), place);
        due("25 round in " + program, x.again(1), round);
        due("25 nothing is danced", x.rule(3), 0);
        due("25 what", x.again(-1), HeelDance.BAD);
        due("25 what", x.again(2), HeelDance.BAD);
    }

    private static void again() {
        againIs("plain 0 0;plain 9 0;program up;", 0, 2);
        againIs("plain 0 0;plain 9 0;program up up;", HeelDance.NONE, HeelDance.NONE);
        againIs(STAIRS + "program up up;", 0, 3);
        againIs(STAIRS + "program down up up;", 0, 3);
        againIs(STAIRS + "program up up down;", 2, 3);
        againIs(STAIRS + "program up up up up up up up down;", HeelDance.NONE, HeelDance.NONE);
        againIs(STAIRS + "program up up up up up up down down;", 6, 3);
        againIs(STAIRS + "program;", HeelDance.NONE, HeelDance.NONE);
        againIs("program up;", HeelDance.NONE, HeelDance.NONE);
        againIs("", HeelDance.NONE, HeelDance.NONE);
        // cousins are of no account here
        againIs(STAIRS + "program up up;cousins 0 0;", 0, 3);
    }

    private static void coinsAre(String program, int some, int due) {
        due("26 coins(" + some + ") for " + program, Check.told(program).coins(some), due);
    }

    private static void coins() {
        coinsAre(STAIRS + "program up;", 1, HeelDance.NONE);
        coinsAre(STAIRS + "program up;", 0, 0);
        coinsAre(STAIRS + "program up up;", 7, 1);
        coinsAre(STAIRS + "program up down;", 7, 0);
        coinsAre(STAIRS + "program up down up down up;", 5, 1);
        coinsAre(STAIRS + "program waltz;", 1, HeelDance.NONE);
        coinsAre(STAIRS + "program waltz waltz;", 1, 1);
        coinsAre(STAIRS + "program up up up up;", 2, 2);
        coinsAre(STAIRS + "program mirror;", 2, 0);
        coinsAre(STAIRS + "program mirror;", 3, 1);
        coinsAre(STAIRS + "program;", 7, 0);
        coinsAre(STAIRS + "program up;", 8, HeelDance.BAD);
        coinsAre(STAIRS + "program up;", -1, HeelDance.BAD);
        coinsAre(STAIRS + "program up up up up up;", 0, 0);
        coinsAre(STAIRS + "program up up up up up up;", 7, HeelDance.STATE);
        coinsAre(STAIRS + "program up up up up up up;", 8, HeelDance.BAD);
        coinsAre("program up;", 0, 0);
        coinsAre("program up;", 1, HeelDance.BAD);
    }
}
