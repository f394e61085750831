/** Promises 29 to 33: what was seen. */
public final class SeenTest {
    private static final Check CHECK = new Check("SeenTest");
    /** Statures 4, 2, 9: by the mirror woman 0 stays with man 0, who is the middle one. */
    private static final String MIDDLE = "plain 0 4;plain 2 0;plain 9 0;program mirror;";

    private static void due(String call, long got, long want) {
        CHECK.due(call, got, want);
    }

    public static void main(String[] args) {
        seeAndForget();
        nothingSeen();
        asItIs();
        otherwise();
        whoIsBent();
        bothChange();
        CHECK.close();
    }

    private static void seeAndForget() {
        HeelDance x = Check.told(MIDDLE);
        due("29 see", x.see(0, 0, 0), 1);
        due("29 the same again", x.see(0, 0, 0), 2);
        due("29 k 8", x.see(2, 8, 2), 3);
        due("29 w", x.see(-1, 0, 0), HeelDance.BAD);
        due("29 w", x.see(3, 0, 0), HeelDance.BAD);
        due("29 k", x.see(0, -1, 0), HeelDance.BAD);
        due("29 k", x.see(0, 9, 0), HeelDance.BAD);
        due("29 m", x.see(0, 0, -1), HeelDance.BAD);
        due("29 m", x.see(0, 0, 3), HeelDance.BAD);
        x.see(0, 1, 1);
        x.see(0, 1, 1);
        due("29 the sixth", x.see(0, 1, 1), 6);
        due("29 the seventh", x.see(0, 1, 1), HeelDance.FULL);
        due("29 the seventh, no man", x.see(0, 1, 3), HeelDance.BAD);
        due("30 forget(-1)", x.forget(-1), HeelDance.BAD);
        due("30 forget(7)", x.forget(7), HeelDance.BAD);
        due("30 forget(6)", x.forget(6), 6);
        due("30 forget(2)", x.forget(2), 6);
        due("30 forget(3)", x.forget(3), HeelDance.BAD);
        due("30 count(0)", x.count(0), 2);
        due("30 the first are kept", x.heights(0), 1023);
        due("30 forget(0)", x.forget(0), 2);
    }

    private static void nothingSeen() {
        HeelDance x = Check.told(MIDDLE);
        due("31 bent()", x.bent(), 7);
        due("32 heights(1)", x.heights(1), 1023);
        due("33 shoes(0)", x.shoes(0), 1);
        due("33 shoes(1)", x.shoes(1), 3);
        due("32 m", x.heights(-1), HeelDance.BAD);
        due("32 m", x.heights(3), HeelDance.BAD);
        due("33 what", x.shoes(-1), HeelDance.BAD);
        due("33 what", x.shoes(2), HeelDance.BAD);
        HeelDance nobody = new HeelDance();
        due("31 nobody", nobody.bent(), 0);
        due("32 nobody", nobody.heights(0), HeelDance.BAD);
        due("33 nobody", nobody.shoes(0), HeelDance.NONE);
        due("33 nobody", nobody.shoes(1), 0);
        due("29 nobody", nobody.see(0, 0, 0), HeelDance.BAD);
    }

    private static void asItIs() {
        HeelDance x = Check.told(MIDDLE);
        x.see(0, 1, 0);
        due("31 bent()", x.bent(), 6);
        due("32 heights(0)", x.heights(0), 63);
        due("32 heights(1)", x.heights(1), 15);
        due("32 heights(2)", x.heights(2), 1008);
        due("31 nothing is changed", x.man(0, 0), 0);
        due("32 nothing is changed", x.man(2, 1), 9);
        due("33 nothing is changed", x.man(0, 2), 4);
        x.see(0, 8, 0);
        due("32 behind more than there are", x.heights(0), 63);
    }

    private static void otherwise() {
        HeelDance x = Check.told(MIDDLE);
        x.see(1, 1, 1);
        due("31 bent()", x.bent(), 1);
        due("32 heights(0)", x.heights(0), 0);
        due("33 shoes(0)", x.shoes(0), 1);
        due("33 shoes(1)", x.shoes(1), 2);
        x.see(0, 0, 0);
        due("33 now", x.shoes(1), 2);
        x.see(2, 0, 0);
        due("31 not so now", x.bent(), 0);
        due("32 not so now", x.heights(0), 0);
        due("33 not so now", x.shoes(0), HeelDance.NONE);
        due("33 not so now", x.shoes(1), 0);
    }

    private static void bothChange() {
        // statures 4, 2, 3: man 2 is the middle one; of heels, man 0's alone
        HeelDance x = Check.told("plain 0 4;plain 2 0;plain 3 0;program mirror;");
        x.see(2, 1, 2);
        due("33 shoes(0)", x.shoes(0), 1);
        due("33 shoes(1)", x.shoes(1), 2);
        x.forget(0);
        x.see(1, 1, 1);
        due("33 shoes(0)", x.shoes(0), 2);
        due("33 shoes(1)", x.shoes(1), 1);
    }

    private static void whoIsBent() {
        // statures 4, 2, 9 again, man 0 being bent as he is
        HeelDance x = Check.told("bent 2 4;plain 2 0;plain 9 0;program mirror;");
        x.see(0, 1, 0);
        due("31 who is bent stays so", x.bent(), 7);
        x.forget(0);
        x.see(1, 1, 1);
        due("31 nobody's knees", x.bent(), 0);
    }
}
