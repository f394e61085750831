/** Promises 12 to 16: what is changed. */
public final class ChangeTest {
    private static final Check CHECK = new Check("ChangeTest");

    private static void due(String call, long got, long want) {
        CHECK.due(call, got, want);
    }

    public static void main(String[] args) {
        alter();
        swap();
        kin();
        program();
        CHECK.close();
    }

    private static void alter() {
        HeelDance x = Check.told("plain 4 3;booted 5 1;");
        due("12 kind", x.alter(1, 0, 3), 1);
        due("12 height", x.alter(1, 1, 9), 5);
        due("12 heels", x.alter(1, 2, 0), 1);
        due("12 heat", x.alter(1, 3, 9), 0);
        due("12 kind then", x.man(1, 0), 3);
        due("12 height then", x.man(1, 1), 9);
        due("12 heels then", x.man(1, 2), 0);
        due("12 heat then", x.man(1, 3), 9);
        due("12 the other", x.man(0, 1), 4);
        due("12 no man", x.alter(2, 0, 0), HeelDance.BAD);
        due("12 no man", x.alter(-1, 0, 0), HeelDance.BAD);
        due("12 what", x.alter(0, 4, 0), HeelDance.BAD);
        due("12 what", x.alter(0, -1, 0), HeelDance.BAD);
        due("12 kind 4", x.alter(0, 0, 4), HeelDance.BAD);
        for (int what = 0; what < 4; what++) {
            due("12 v below", x.alter(0, what, -1), HeelDance.BAD);
            due("12 v above", x.alter(0, what, 10), HeelDance.BAD);
        }
        due("12 kind stays", x.man(0, 0), 0);
        due("12 height stays", x.man(0, 1), 4);
        due("12 heels stay", x.man(0, 2), 3);
    }

    private static void swap() {
        HeelDance x = Check.told("plain 4 3;booted 5 1;plain 1 1;");
        due("13 swap(0, 1)", x.swap(0, 1), 1);
        due("13 swap(2, 0)", x.swap(2, 0), 1);
        due("13 woman(0)", x.woman(0), 2);
        due("13 woman(1)", x.woman(1), 0);
        due("13 woman(2)", x.woman(2), 1);
        due("13 alike", x.swap(1, 1), HeelDance.BAD);
        due("13 nobody", x.swap(0, 3), HeelDance.BAD);
        due("13 nobody", x.swap(3, 0), HeelDance.BAD);
        due("13 nobody", x.swap(-1, 0), HeelDance.BAD);
        due("13 nobody", x.swap(0, -1), HeelDance.BAD);
    }

    private static void kin() {
        HeelDance x = Check.told("plain 4 3;booted 5 1;plain 1 1;cousins 0 2;");
        due("14 were", x.kin(0, 2, true), 1);
        due("14 were not", x.kin(2, 0, true), 0);
        due("14 bits", x.cousins(2), 1);
        due("14 how many", x.rule(1), 2);
        due("14 not any more", x.kin(0, 2, false), 1);
        due("14 not any more", x.cousins(0), 0);
        due("14 were not", x.kin(0, 2, false), 0);
        due("14 how many", x.rule(1), 1);
        for (int m = 0; m < 3; m++) {
            x.kin(0, m, true);
        }
        x.kin(1, 0, true);
        x.kin(1, 1, true);
        due("14 six", x.rule(1), 6);
        due("14 a seventh", x.kin(1, 2, true), HeelDance.FULL);
        due("14 six still", x.rule(1), 6);
        due("14 one of the six", x.kin(1, 1, true), 1);
        due("14 not a cousin", x.kin(1, 2, false), 0);
        due("14 one less", x.kin(1, 1, false), 1);
        due("14 room again", x.kin(1, 2, true), 0);
        due("14 no woman", x.kin(3, 0, true), HeelDance.BAD);
        due("14 no woman", x.kin(-1, 0, true), HeelDance.BAD);
        due("14 no man", x.kin(0, 3, true), HeelDance.BAD);
        due("14 no man", x.kin(0, -1, false), HeelDance.BAD);
    }

    private static void program() {
        HeelDance x = new HeelDance();
        due("15 plan(-1)", x.plan(-1), HeelDance.BAD);
        due("15 plan(4)", x.plan(4), HeelDance.BAD);
        for (int i = 0; i < 8; i++) {
            due("15 plan", x.plan(i % 4), i + 1);
        }
        due("15 a ninth", x.plan(0), HeelDance.FULL);
        due("15 a ninth that is none", x.plan(4), HeelDance.BAD);
        for (int i = 0; i < 8; i++) {
            due("15 figure", x.figure(i), i % 4);
        }
        due("16 cut(-1)", x.cut(-1), HeelDance.BAD);
        due("16 cut(9)", x.cut(9), HeelDance.BAD);
        due("16 cut(8)", x.cut(8), 8);
        due("16 cut(3)", x.cut(3), 8);
        due("16 cut(4)", x.cut(4), HeelDance.BAD);
        due("16 figures", x.rule(2), 3);
        due("16 figure(2)", x.figure(2), 2);
        due("16 figure(3)", x.figure(3), HeelDance.BAD);
        due("16 plan again", x.plan(0), 4);
        due("16 cut(0)", x.cut(0), 4);
        due("16 figures", x.rule(2), 0);
    }
}
