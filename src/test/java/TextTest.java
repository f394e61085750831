/** Promises 1 to 11: a new object, the tape, the text, what has been told. */
public final class TextTest {
    private static final Check CHECK = new Check("TextTest");

    private static void due(String call, long got, long want) {
        CHECK.due(call, got, want);
    }

    public static void main(String[] args) {
        newObject();
        feed();
        end();
        textsThatAreTaken();
        faults();
        faultOrder();
        whatAFaultLeaves();
        rule();
        man();
        rest();
        CHECK.close();
    }

    private static void newObject() {
        HeelDance x = new HeelDance();
        for (int what = 0; what <= 4; what++) {
            due("1 rule(" + what + ")", x.rule(what), 0);
        }
        due("1 count(0)", x.count(0), 0);
        due("1 count(1)", x.count(1), 0);
        due("1 count(2)", x.count(2), 0);
        due("1 count(3)", x.count(3), HeelDance.NONE);
        due("1 count(4)", x.count(4), 0);
        due("1 count(5)", x.count(5), 0);
        due("1 fault()", x.fault(), 0);
        due("1 torn()", x.torn(), 0);
        for (int k = 0; k < 4; k++) {
            due("1 lay on sheet " + k, x.lay(k, 0, 0), -11);
        }
        due("1 back(0)", x.back(0), HeelDance.STATE);
        due("1 back(1)", x.back(1), HeelDance.STATE);
    }

    private static void feed() {
        HeelDance x = new HeelDance();
        due("2 feed(-1)", x.feed(-1), HeelDance.BAD);
        due("2 feed(128)", x.feed(128), HeelDance.BAD);
        due("2 feed(0)", x.feed(0), 1);
        due("2 feed(127)", x.feed(127), 2);
        for (int i = 3; i <= 160; i++) {
            due("2 feed to " + i, x.feed(32), i);
        }
        due("2 feed past 160", x.feed(32), HeelDance.FULL);
        due("2 feed past 160, no byte", x.feed(-1), HeelDance.BAD);
        due("2 count(2)", x.count(2), 160);
    }

    private static void end() {
        HeelDance x = new HeelDance();
        due("3 end(0) of none", x.end(0), 0);
        due("3 end(1) of none", x.end(1), HeelDance.BAD);
        for (int i = 0; i < 5; i++) {
            x.feed('a' + i);
        }
        due("3 end(-1)", x.end(-1), HeelDance.BAD);
        due("3 end(6)", x.end(6), HeelDance.BAD);
        due("3 end(5)", x.end(5), 5);
        due("3 end(2)", x.end(2), 5);
        due("3 count(2)", x.count(2), 2);
        due("3 end(0)", x.end(0), 2);
        "program;".chars().forEach(x::feed);
        x.feed('?');
        x.end(8);
        due("3 the first bytes are kept", x.text(), 1);
    }

    private static void taken(String text, int lines) {
        HeelDance x = new HeelDance();
        due("4 '" + text + "'", Check.tell(x, text), lines);
        due("5 '" + text + "'", x.fault(), 0);
        due("4 tape behind '" + text + "'", x.count(2), 0);
    }

    private static void textsThatAreTaken() {
        taken("", 0);
        taken("   ", 0);
        taken(" ".repeat(160), 0);
        taken(" ".repeat(152) + "program;", 1);
        taken("program;", 1);
        taken("  plain  1   2  ;  ", 1);
        taken("plain1 2;bent3 4;", 2);
        taken("plain 01 00;", 1);
        taken("plain 09 9;", 1);
        taken("cousins 0 1;plain 0 0;cousins 1 0;plain 0 0;", 4);
        taken("program up down waltz mirror up down waltz mirror;", 1);
        taken("plain 0 0;plain 0 0;plain 0 0;plain 0 0;plain 9 9;", 5);
        taken("plain 0 0;plain 0 0;plain 0 0;cousins 0 0;cousins 0 1;cousins 0 2;"
            + "cousins 1 0;cousins 1 1;cousins 1 2;", 9);
    }

    private static void faulty(String text, int place, int fault) {
        HeelDance x = new HeelDance();
        due("4 '" + text + "'", Check.tell(x, text), -10 - place);
        due("5 '" + text + "'", x.fault(), fault);
        due("4 tape behind '" + text + "'", x.count(2), 0);
    }

    private static void faults() {
        faulty("?", 0, 1);
        faulty(" ".repeat(153) + "program", 160, 2);
        faulty(" ".repeat(153) + "plain 1", 160, 2);
        faulty("  Plain 1 1;", 2, 1);
        faulty("plain 1 1,", 9, 1);
        faulty("plain\t1 1;", 5, 1);
        faulty("plain 123 1;", 6, 1);
        faulty("plain 1 000;", 8, 1);
        faulty("999", 0, 1);
        faulty("tall 1 1;", 0, 2);
        faulty("up;", 0, 2);
        faulty("plai 1 1;", 0, 2);
        faulty("plainn 1 1;", 0, 2);
        faulty("qlain 1 1;", 0, 2);
        faulty("program xp;", 8, 2);
        faulty("1 1;", 0, 2);
        faulty(";", 0, 2);
        faulty("plain 1 1;;", 10, 2);
        faulty("plain ; 1;", 6, 2);
        faulty("plain plain 1;", 6, 2);
        faulty("plain 1 up;", 8, 2);
        faulty("plain 1 1 1;", 10, 2);
        faulty("plain 1 1", 9, 2);
        faulty("plain 1 1  ", 11, 2);
        faulty("plain 1", 7, 2);
        faulty("plain", 5, 2);
        faulty("cousins 1 1", 11, 2);
        faulty("program", 7, 2);
        faulty("program up", 10, 2);
        faulty("program up 1;", 11, 2);
        faulty("program plain 1 1;", 8, 2);
        faulty("program upp;", 8, 2);
        faulty("plain 10 1;", 6, 3);
        faulty("hearth 1 10;", 9, 3);
        faulty("bent 99 1;", 5, 3);
        faulty("booted 1 11;", 9, 3);
        faulty("cousins 5 0;", 8, 3);
        faulty("cousins 0 5;", 10, 3);
        faulty("cousins 4 4;", 12, 6);
        faulty("program;program up;", 8, 4);
        faulty("cousins 1 2;cousins 1 02;", 22, 4);
        faulty("plain 0 0;plain 0 0;plain 0 0;plain 0 0;plain 0 0;bent 0 0;", 50, 5);
        faulty("cousins 0 0;cousins 0 1;cousins 0 2;cousins 1 0;cousins 1 1;cousins 1 2;cousins 0 0;", 72, 5);
        faulty("program up up up up up up up up down;", 32, 5);
        faulty("plain 0 0;cousins 1 0; ", 23, 6);
        faulty("plain 0 0;cousins 0 1;", 22, 6);
        faulty("cousins 0 0;", 12, 6);
    }

    /** Of several faults the first met: a token is read when the one before has been taken. */
    private static void faultOrder() {
        faulty("tall ?", 0, 2);
        faulty("plain 10?", 6, 3);
        faulty("plain 1 ? 10", 8, 1);
        faulty("plain 1 1?", 9, 1);
        faulty("plain ? 1;", 6, 1);
        faulty("program up ? down;", 11, 1);
        faulty("program;program?", 8, 4);
        faulty("cousins 0 0;cousins 0 0?", 22, 4);
        faulty("plain 0 0;plain 0 0;plain 0 0;plain 0 0;plain 0 0;bent?", 50, 5);
        faulty("cousins 0 0;tall", 12, 2);
        // an eighth figure is taken ahead of what comes behind it; a ninth name is too many, a figure's or not
        faulty("program up up up up up up up up 1;", 32, 2);
        faulty("program up up up up up up up up", 31, 2);
        faulty("program up up up up up up up up 123;", 32, 1);
        faulty("program up up up up up up up up jig;", 32, 5);
        faulty("program up up up up up up up up x", 32, 5);
        faulty("program up up up up up up up jig up;", 29, 2);
    }

    private static void whatAFaultLeaves() {
        HeelDance x = Check.told("plain 4 3;bent 5 1;cousins 0 1;program up;");
        x.dance(0);
        x.see(0, 1, 1);
        x.keep(1);
        x.keep(0);
        due("4 faulty", Check.tell(x, "hearth 1 1;program up"), -31);
        due("5 faulty", x.fault(), 2);
        due("4 men stay", x.rule(0), 2);
        due("4 cousins stay", x.rule(1), 1);
        due("4 program stays", x.rule(2), 1);
        due("4 danced stays", x.rule(3), 1);
        due("4 kind stays", x.man(0, 0), 0);
        due("4 seen stays", x.count(0), 1);
        due("4 images stay", x.count(1), 2);
        x.sheet(0, 0, 7);
        due("4 taken", Check.tell(x, "hearth 1 2;"), 1);
        due("5 taken", x.fault(), 0);
        due("4 men", x.rule(0), 1);
        due("4 cousins gone", x.rule(1), 0);
        due("4 program gone", x.rule(2), 0);
        due("4 danced gone", x.rule(3), 0);
        due("4 with whom she came", x.woman(0), 0);
        due("4 kind", x.man(0, 0), 3);
        due("4 heat", x.man(0, 3), 0);
        due("4 nothing seen", x.count(0), 0);
        due("4 images gone", x.count(1), 0);
        due("4 images gone", x.back(1), HeelDance.STATE);
        due("4 sheets stay", x.count(3), 7);
        due("4 nobody", x.text(), 0);
        due("4 nobody", x.rule(0), 0);
    }

    private static void rule() {
        HeelDance x = Check.told("plain 4 3;bent 5 1;hearth 1 1;cousins 0 1;cousins 2 2;program up down up;");
        due("6 rule(0)", x.rule(0), 3);
        due("6 rule(1)", x.rule(1), 2);
        due("6 rule(2)", x.rule(2), 3);
        due("6 rule(3)", x.rule(3), 0);
        due("6 rule(4)", x.rule(4), 7);
        x.swap(0, 2);
        due("6 rule(4)", x.rule(4), 2);
        x.dance(3);
        due("6 rule(3)", x.rule(3), 1);
        due("6 rule(-1)", x.rule(-1), HeelDance.BAD);
        due("6 rule(5)", x.rule(5), HeelDance.BAD);
    }

    private static void man() {
        HeelDance x = Check.told("plain 4 3;booted 5 1;bent 0 1;hearth 1 0;");
        int[][] due = {{0, 4, 3, 0, 9, 3, 0}, {1, 5, 1, 0, 8, 2, 1}, {2, 0, 1, 0, 1, 0, 2}, {3, 1, 0, 0, 6, 1, 3}};
        for (int m = 0; m < 4; m++) {
            for (int what = 0; what < 7; what++) {
                due("7 man(" + m + ", " + what + ")", x.man(m, what), due[m][what]);
            }
        }
        x.swap(0, 3);
        due("7 the woman with man 0", x.man(0, 6), 3);
        due("7 the woman with man 3", x.man(3, 6), 0);
        x.alter(1, 3, 4);
        due("7 heat", x.man(1, 3), 4);
        due("7 man(-1, 0)", x.man(-1, 0), HeelDance.BAD);
        due("7 man(4, 0)", x.man(4, 0), HeelDance.BAD);
        due("7 man(0, -1)", x.man(0, -1), HeelDance.BAD);
        due("7 man(0, 7)", x.man(0, 7), HeelDance.BAD);
    }

    private static void rest() {
        HeelDance x = Check.told("plain 4 1;plain 5 0;bent 5 2;hearth 2 0;cousins 1 0;cousins 1 3;program down mirror;");
        // all of one stature: by heat, then by number
        for (int r = 0; r < 4; r++) {
            due("9 at(" + r + ")", x.at(r), r);
        }
        x.alter(3, 3, 2);
        x.alter(1, 3, 1);
        due("9 at(0)", x.at(0), 3);
        due("9 at(1)", x.at(1), 1);
        due("9 at(2)", x.at(2), 0);
        due("9 at(3)", x.at(3), 2);
        due("9 at(-1)", x.at(-1), HeelDance.BAD);
        due("9 at(4)", x.at(4), HeelDance.BAD);
        x.swap(1, 2);
        due("8 woman(0)", x.woman(0), 0);
        due("8 woman(1)", x.woman(1), 2);
        due("8 woman(2)", x.woman(2), 1);
        due("8 woman(-1)", x.woman(-1), HeelDance.BAD);
        due("8 woman(4)", x.woman(4), HeelDance.BAD);
        due("10 figure(0)", x.figure(0), 1);
        due("10 figure(1)", x.figure(1), 3);
        due("10 figure(2)", x.figure(2), HeelDance.BAD);
        due("10 figure(-1)", x.figure(-1), HeelDance.BAD);
        due("11 cousins(0)", x.cousins(0), 0);
        due("11 cousins(1)", x.cousins(1), 9);
        due("11 cousins(-1)", x.cousins(-1), HeelDance.BAD);
        due("11 cousins(4)", x.cousins(4), HeelDance.BAD);
    }
}
