/** Promises 27 and 28: heels that break. */
public final class LuckTest {
    private static final Check CHECK = new Check("LuckTest");

    private static void due(String call, long got, long want) {
        CHECK.due(call, got, want);
    }

    public static void main(String[] args) {
        middle();
        mean();
        edges();
        CHECK.close();
    }

    private static void luckIs(HeelDance x, int v, int w, long upper, long lower) {
        due("27 luck(" + v + ", " + w + ", 0)", x.luck(v, w, 0), upper);
        due("27 luck(" + v + ", " + w + ", 1)", x.luck(v, w, 1), lower);
    }

    private static void meanIs(HeelDance x, int v, long upper, long lower) {
        due("28 mean(" + v + ", 0)", x.mean(v, 0), upper);
        due("28 mean(" + v + ", 1)", x.mean(v, 1), lower);
    }

    /** A mirror leaves her with whom she is who is with the middle one: man 0, or man 1 if 0's heels break. */
    private static void middle() {
        HeelDance x = Check.told("plain 0 4;plain 2 0;plain 9 0;program mirror;");
        luckIs(x, 3, 0, 7, 10);
        luckIs(x, 3, 1, 3, 10);
        luckIs(x, 3, 2, 0, 1);
        luckIs(x, 5, 0, 1, 2);
        luckIs(x, 2, 1, 1, 5);
        luckIs(x, 0, 0, 1, 1);
        luckIs(x, 0, 1, 0, 1);
        luckIs(x, 10, 0, 0, 1);
        luckIs(x, 10, 1, 1, 1);
        for (int v = 0; v <= 10; v++) {
            meanIs(x, v, 1, 1);
        }
        due("27 heels are as they were", x.man(0, 2), 4);
        due("27 nothing is danced", x.rule(3), 0);
    }

    /** Up and down bring all back if man 0's heels are broken, none if he shrinks between them. */
    private static void mean() {
        HeelDance x = Check.told("plain 1 3;hearth 0 0;plain 9 0;program up down;");
        meanIs(x, 0, 0, 1);
        meanIs(x, 5, 3, 2);
        meanIs(x, 1, 3, 10);
        meanIs(x, 4, 6, 5);
        meanIs(x, 10, 3, 1);
        luckIs(x, 4, 0, 2, 5);
        luckIs(x, 4, 2, 2, 5);
    }

    private static void edges() {
        HeelDance x = Check.told("plain 0 4;plain 2 0;");
        luckIs(x, 7, 0, 1, 1);
        meanIs(x, 7, 2, 1);
        x.plan(0);
        luckIs(x, 7, 0, 0, 1);
        meanIs(x, 7, 0, 1);
        due("27 v", x.luck(-1, 0, 0), HeelDance.BAD);
        due("27 v", x.luck(11, 0, 0), HeelDance.BAD);
        due("27 w", x.luck(5, -1, 0), HeelDance.BAD);
        due("27 w", x.luck(5, 2, 0), HeelDance.BAD);
        due("27 what", x.luck(5, 0, -1), HeelDance.BAD);
        due("27 what", x.luck(5, 0, 2), HeelDance.BAD);
        due("28 v", x.mean(-1, 0), HeelDance.BAD);
        due("28 v", x.mean(11, 0), HeelDance.BAD);
        due("28 what", x.mean(5, -1), HeelDance.BAD);
        due("28 what", x.mean(5, 2), HeelDance.BAD);
        HeelDance nobody = new HeelDance();
        due("27 nobody", nobody.luck(5, 0, 0), HeelDance.BAD);
        meanIs(nobody, 5, 0, 1);
    }
}
