/** The boundary cases of 'Terms': THE TAPE, its TOKENS, lines and FAULTS. */
final class BoundsOfTape {
    private static final String EIGHT = "program up down waltz mirror up down waltz mirror";

    private final Bounds b;

    BoundsOfTape(Bounds b) {
        this.b = b;
    }

    private void said(String words) {
        b.said(Doc.TERMS, words);
    }

    void test() {
        tape();
        tokens();
        lines();
        firstMet();
        noToken();
        misplaced();
        outOfBounds();
        twice();
        tooMany();
        strangers();
        taken();
    }

    private void taken(String text, int lines) {
        b.nobody().feeds(text).does("text()", lines).asks("fault()", 0);
    }

    /** On an object that has been told of men, so that it is seen that they stay. */
    private void faulty(String text, int place, int fault) {
        b.told("hearth 3 4;program up;").makes("dance(0)", "keep(1)", "see(0, 0, 0)").faulty(text, place, fault);
    }

    private void tape() {
        said("THE TAPE has 160 bytes, places from 0.");
        b.nobody().asks("count(2)", 0).feeds(" ".repeat(159)).does("feed(63)", 160).asks("feed(32)", Bounds.FULL)
            .asks("count(2)", 160).does("text()", -10 - 159).asks("count(2)", 0);
        faulty("?", 0, 1);
        taken(" ".repeat(152) + "program;", 1);
        faulty(" ".repeat(153) + "program", 160, 2);
    }

    private void tokens() {
        said("TOKENS, each as long as may be,");
        faulty("plainplain 1 1;", 0, 2);
        faulty("program upup;", 8, 2);
        faulty("plain 12;", 6, 3);
        faulty("plain 1 12;", 8, 3);
        faulty("program;;", 8, 2);

        said("blanks (32) between:");
        taken("plain1 2;bent3 4;cousins0 1;program up down;", 4);
        taken("   plain   1   2   ;   program   up   ;   ", 2);
        taken("program;plain1 2;", 2);
        faulty("pla in 1 1;", 0, 2);
        faulty("program u p;", 8, 2);
        faulty("plain 1 1\t;", 9, 1);
        faulty("plain\n1 1;", 5, 1);

        said("NAMES (a .. z), NUMBERS (1 or 2 figures), one ; .");
        for (int c = 0; c < 128; c++) {
            boolean token = c >= 'a' && c <= 'z' || c >= '0' && c <= '9' || c == ';';
            if (c != ' ') {
                faulty(String.valueOf((char) c), 0, token ? 2 : 1);
            }
        }
        taken("plain 1 2;plain 01 02;plain 00 09;", 3);
        b.told("plain 08 9;").asks("man(0, 1)", 8).asks("man(0, 2)", 9);
        faulty("plain 001 1;", 6, 1);
        faulty("plain 1 000;", 8, 1);
        faulty("Plain 1 1;", 0, 1);
        faulty("plAin 1 1;", 0, 2);
    }

    private void lines() {
        said("text: { line }");
        taken("", 0);
        taken(" ".repeat(160), 0);
        taken("program;", 1);
        taken("bent0 0;bent0 0;bent0 0;bent0 0;bent0 0;cousins0 0;cousins0 1;cousins0 2;cousins1 0;cousins1 1;cousins1 2;program;",
            12);
        taken("cousins 0 0;program;plain 0 0;", 3);

        said("line: plain N N ; | booted N N ; | bent N N ; | hearth N N ; | cousins N N ; | program { F } ;");
        for (String line : new String[] {"plain", "booted", "bent", "hearth", "cousins"}) {
            int n = line.length();
            taken(line + " 0 0;" + (line.equals("cousins") ? "plain 0 0;" : ""), line.equals("cousins") ? 2 : 1);
            faulty(line, n, 2);
            faulty(line + ";", n, 2);
            faulty(line + " 0", n + 2, 2);
            faulty(line + " 0;", n + 2, 2);
            faulty(line + " 0 0", n + 4, 2);
            faulty(line + " 0 0 0;", n + 5, 2);
            faulty(line + " up 0;", n + 1, 2);
            faulty(line + " 0 up;", n + 3, 2);
            faulty(line + " 0 0 up;", n + 5, 2);
        }
        taken("program;", 1);
        taken(EIGHT + ";", 1);
        faulty("program", 7, 2);
        faulty("program 1;", 8, 2);
        faulty("program up 1;", 11, 2);

        said("F: up | down | waltz | mirror");
        b.told("program mirror up waltz down;").asks("rule(2)", 4).asks("figure(0)", 3).asks("figure(1)", 0).asks("figure(2)", 2)
            .asks("figure(3)", 1).asks("figure(4)", Bounds.BAD);
        for (String no : new String[] {"u", "upp", "dow", "downn", "walt", "waltzz", "mirro", "mirrorr", "program", "plain"}) {
            faulty("program " + no + ";", 8, 2);
        }

        said("plain, booted, bent, hearth: a MAN more of that KIND: HEIGHT, HEELS.");
        b.told("bent 1 2;plain 3 4;hearth 5 6;booted 7 8;bent 9 0;")
            .asks("man(0, 0)", 2).asks("man(0, 1)", 1).asks("man(0, 2)", 2).asks("man(1, 0)", 0).asks("man(1, 1)", 3)
            .asks("man(1, 2)", 4).asks("man(2, 0)", 3).asks("man(2, 1)", 5).asks("man(2, 2)", 6).asks("man(3, 0)", 1)
            .asks("man(3, 1)", 7).asks("man(3, 2)", 8).asks("man(4, 0)", 2).asks("man(4, 1)", 9).asks("man(4, 2)", 0);

        said("cousins: a WOMAN, a MAN (0 to 4 each).");
        b.told(Bounds.stairs(5) + "cousins 0 4;cousins 4 0;cousins 4 4;cousins 2 3;")
            .asks("cousins(0)", 16).asks("cousins(4)", 17).asks("cousins(2)", 8).asks("cousins(3)", 0);
        faulty(Bounds.stairs(5) + "cousins 5 0;", 58, 3);
        faulty(Bounds.stairs(5) + "cousins 0 5;", 60, 3);

        said("program: THE PROGRAM.");
        b.told("program;").asks("rule(2)", 0);
        b.told("program up;").asks("rule(2)", 1).tells("plain 0 0;").asks("rule(2)", 0);
    }

    private void firstMet() {
        said("FAULTS, the first met as it is read (a TOKEN is read when the one before has been taken):");
        faulty("tall ?", 0, 2);
        faulty("tall 123", 0, 2);
        faulty("plain ? 10;", 6, 1);
        faulty("plain 10 ?;", 6, 3);
        faulty("plain 10 123;", 6, 3);
        faulty("plain 123 10;", 6, 1);
        faulty("plain 1 10?", 8, 3);
        faulty("plain 1 1?", 9, 1);
        faulty("cousins 5 5;", 8, 3);
        faulty("cousins 4 4;tall", 12, 2);
        faulty("cousins 4 4;?", 12, 1);
        faulty("cousins 4 4;cousins 4 4?", 22, 4);
        faulty("cousins 4 4;cousins 4 5;", 22, 3);
        faulty("program;program ?", 8, 4);
        faulty("program up ?;", 11, 1);
        faulty(Bounds.stairs(5) + "bent ?", 50, 5);
        faulty(Bounds.SIX_COUSINS + "cousins 0 0;", 72, 5);
        faulty(Bounds.SIX_COUSINS + "cousins ?", 72, 5);
        faulty(EIGHT + " ?", 50, 1);
        faulty(EIGHT + " up ?", 50, 5);
    }

    private void noToken() {
        said("1 no TOKEN, a NUMBER that is too long (its first byte).");
        faulty("  ?", 2, 1);
        faulty("plain 1 1;_", 10, 1);
        faulty("plain 1 1;  -", 12, 1);
        faulty("program up,down;", 10, 1);
        faulty("plain 123 1;", 6, 1);
        faulty("plain 1 0000;", 8, 1);
        faulty("  100", 2, 1);
        faulty("program 000;", 8, 1);
        faulty("plain 1 1 111;", 10, 1);
        faulty(" ".repeat(157) + "123", 157, 1);
        faulty("7".repeat(160), 0, 1);
    }

    private void misplaced() {
        said("2 a TOKEN that can not stand there (a NAME that begins no line, that is no F; or the end: the length).");
        faulty("tall 1 1;", 0, 2);
        faulty("up;", 0, 2);
        faulty("12;", 0, 2);
        faulty(";", 0, 2);
        faulty("plain 1 1;up;", 10, 2);
        for (String no : new String[] {"plai", "booteda", "ben", "hearths", "cousin", "programs", "a", "z"}) {
            faulty(no + " 1 1;", 0, 2);
        }
        for (String no : new String[] {"slain", "footed", "lent", "dearth", "dousins", "trogram"}) {
            faulty(no + " 1 1;", 0, 2);
        }
        for (String no : new String[] {"ap", "gown", "saltz", "zirror"}) {
            faulty("program " + no + ";", 8, 2);
        }
        faulty("a".repeat(160), 0, 2);
        faulty("program jig;", 8, 2);
        faulty("program up plain 1 1;", 11, 2);
        faulty("program", 7, 2);
        faulty("program up", 10, 2);
        faulty("program up   ", 13, 2);
        faulty("plain 1 1", 9, 2);
        faulty("plain 1 1 ", 10, 2);
        faulty("plain 1 1 plain 1 1;", 10, 2);
    }

    private void outOfBounds() {
        said("3 a NUMBER out of its bounds.");
        for (String line : new String[] {"plain", "booted", "bent", "hearth"}) {
            taken(line + " 9 9;", 1);
            faulty(line + " 10 9;", line.length() + 1, 3);
            faulty(line + " 9 10;", line.length() + 3, 3);
            faulty(line + " 99 9;", line.length() + 1, 3);
            faulty(line + " 9 99;", line.length() + 3, 3);
        }
        faulty("cousins 5 0;", 8, 3);
        faulty("cousins 0 5;", 10, 3);
        faulty("cousins 99 0;", 8, 3);
        faulty("cousins 0 99;", 10, 3);
        // these are in their bounds: what there is not is found behind all
        faulty("cousins 4 0;", 12, 6);
        faulty("cousins 0 04;", 13, 6);
    }

    private void twice() {
        said("4 program for the second time (its NAME);");
        faulty("program;program;", 8, 4);
        faulty("program up;plain 1 1;  program down;", 23, 4);

        said("a MAN whose COUSIN that WOMAN is already (he).");
        faulty("cousins 0 0;cousins 0 0;", 22, 4);
        faulty("cousins 1 2;cousins 2 1;cousins 01 02;", 35, 4);
        taken(Bounds.stairs(3) + "cousins 1 2;cousins 2 1;cousins 2 2;cousins 1 1;", 7);
    }

    private void tooMany() {
        said("5 the 6th MAN, the 7th cousins (its NAME);");
        taken(Bounds.stairs(5), 5);
        for (String kind : new String[] {"plain", "booted", "bent", "hearth"}) {
            faulty(Bounds.stairs(5) + kind + " 1 1;", 50, 5);
        }
        taken(Bounds.SIX_COUSINS + Bounds.stairs(3), 9);
        faulty(Bounds.SIX_COUSINS + Bounds.stairs(3) + " cousins 2 2;", 103, 5);

        said("a 9th NAME behind program (it).");
        taken(EIGHT + ";", 1);
        faulty(EIGHT + " up;", 50, 5);
        faulty(EIGHT + " up up;", 50, 5);
        // any NAME is one, also where it is no F; what is no NAME is none
        for (String name : new String[] {"x", "jig", "upp", "plain", "program"}) {
            faulty(EIGHT + " " + name, 50, 5);
            faulty(EIGHT + " " + name + ";", 50, 5);
        }
        faulty(EIGHT + " 1;", 50, 2);
        faulty(EIGHT, 49, 2);
        faulty("program up down waltz mirror up down waltz jig up;", 43, 2);
    }

    private void strangers() {
        said("Behind all (the length): 6 a MAN, a WOMAN that there is not.");
        faulty("cousins 0 0;", 12, 6);
        faulty("cousins 0 0;   ", 15, 6);
        for (int men = 1; men <= 5; men++) {
            int last = men - 1;
            taken(Bounds.stairs(men) + "cousins " + last + " " + last + ";", men + 1);
            if (men < 5) {
                faulty(Bounds.stairs(men) + "cousins " + men + " " + last + ";", 10 * men + 12, 6);
                faulty("cousins " + last + " " + men + ";" + Bounds.stairs(men), 10 * men + 12, 6);
            }
        }
        // told of ahead of him
        taken("cousins 0 1;plain 0 0;plain 0 0;", 3);
        faulty("cousins 0 1;plain 0 0;", 22, 6);
    }

    private void taken() {
        said("A text that is taken tells all, in place of what there was; nothing is SEEN; IMAGES are gone.");
        b.rich().makes("end(0)", "keep(1)").tells("hearth 1 2;booted 3 4;")
            .asks("rule(0)", 2).asks("rule(1)", 0).asks("rule(2)", 0).asks("rule(3)", 0).asks("rule(4)", 3).asks("man(0, 0)", 3)
            .asks("man(1, 3)", 0).asks("man(2, 0)", Bounds.BAD).asks("woman(1)", 1).asks("cousins(0)", 0)
            .asks("count(0)", 0).asks("count(1)", 0).asks("back(0)", Bounds.STATE).asks("back(1)", Bounds.STATE)
            .asks("count(3)", 3).asks("torn()", 2);
        b.rich().makes("end(0)").does("text()", 0).asks("rule(0)", 0).asks("rule(1)", 0).asks("rule(2)", 0).asks("rule(3)", 0)
            .asks("count(0)", 0).asks("count(1)", 0).asks("back(0)", Bounds.STATE).asks("count(4)", 0).asks("count(5)", 0);
    }
}
