/** The boundary cases of promises 29 to 34: what was seen, and evenings by a seed. */
final class BoundsOfSeen {
    private static final int BAD = Bounds.BAD, STATE = Bounds.STATE, FULL = Bounds.FULL, NONE = Bounds.NONE;
    /** Of STATURE 4, 2, 9: by the mirror WOMAN 0 stays with MAN 0, who is the middle one. */
    private static final String MIDDLE = "plain 0 4;plain 2 0;plain 9 0;program mirror;";

    private final Bounds b;

    BoundsOfSeen(Bounds b) {
        this.b = b;
    }

    void test() {
        see();
        forget();
        bent();
        heights();
        shoes();
        drift();
        driftRefused();
    }

    private void see() {
        b.said(29, "SEEN: behind k FIGURES (0 to 8) a WOMAN was with a MAN: how many are.");
        b.told(MIDDLE).does("see(0, 0, 0)", 1).asks("count(0)", 1).does("see(0, 0, 0)", 2).does("see(2, 8, 0)", 3)
            .does("see(1, 1, 2)", 4).asks("count(0)", 4);
        b.told(Bounds.stairs(5)).does("see(4, 8, 4)", 1);

        b.said(29, "BAD;");
        b.told(MIDDLE).asks("see(-1, 0, 0)", BAD).asks("see(3, 0, 0)", BAD).asks("see(0, -1, 0)", BAD).asks("see(0, 9, 0)", BAD)
            .asks("see(0, 0, -1)", BAD).asks("see(0, 0, 3)", BAD);
        b.nobody().asks("see(0, 0, 0)", BAD);

        b.said(29, "FULL.");
        b.told(MIDDLE).makes("see(0, 0, 0)", "see(0, 0, 0)", "see(1, 0, 1)", "see(1, 0, 1)", "see(0, 1, 0)")
            .does("see(0, 2, 0)", 6).asks("see(0, 0, 0)", FULL).asks("see(0, 0, 1)", FULL).asks("count(0)", 6).makes("forget(5)")
            .does("see(0, 0, 0)", 6).asks("see(0, 0, 0)", FULL);
    }

    private void forget() {
        b.said(30, "SEEN are the first n alone: how many there were.");
        // the last one is not so, the first one is
        b.told(MIDDLE).makes("see(0, 1, 0)", "see(0, 1, 1)").asks("heights(1)", 0).does("forget(2)", 2).asks("heights(1)", 0)
            .does("forget(1)", 2).asks("count(0)", 1).asks("heights(1)", 15).does("forget(0)", 1).asks("heights(1)", 1023)
            .does("forget(0)", 0);
        b.told(MIDDLE).makes("see(0, 1, 1)", "see(0, 1, 0)").does("forget(1)", 2).asks("heights(1)", 0);
        b.told(MIDDLE).makes("see(0, 0, 0)", "see(0, 0, 0)", "see(0, 0, 0)", "see(0, 0, 0)", "see(0, 0, 0)", "see(0, 0, 0)")
            .does("forget(6)", 6).does("forget(5)", 6).asks("count(0)", 5);

        b.said(30, "BAD.");
        b.told(MIDDLE).makes("see(0, 1, 0)", "see(0, 1, 1)").asks("forget(-1)", BAD).asks("forget(3)", BAD).makes("forget(1)")
            .asks("forget(2)", BAD);
        b.nobody().asks("forget(1)", BAD).asks("forget(-1)", BAD).does("forget(0)", 0);
    }

    private void bent() {
        b.said(31, "MEN (bits) any of whom, were he bent, makes all as SEEN (who is bent: as it is).");
        // nothing is SEEN: all
        b.told(Bounds.stairs(5)).asks("bent()", 31);
        b.nobody().asks("bent()", 0);
        // were MAN 0 bent, he and MAN 1 were of one STATURE: then he is first, and MAN 1 the middle one
        b.told(MIDDLE).makes("see(0, 1, 0)").asks("bent()", 6).makes("forget(0)", "see(1, 1, 1)").asks("bent()", 1)
            .makes("see(0, 0, 0)").asks("bent()", 1).makes("see(0, 0, 1)").asks("bent()", 0);
        // MAN 0 is bent already, of STATURE 8: neither 10 nor 6
        b.told("bent 9 1;plain 2 0;plain 9 0;program mirror;").makes("see(0, 1, 0)").asks("bent()", 3).makes("forget(0)",
            "see(2, 1, 2)").asks("bent()", 4);
        b.told("bent 9 1;plain 7 0;plain 9 0;program mirror;").makes("see(0, 1, 0)").asks("bent()", 3).makes("forget(0)",
            "see(1, 1, 1)").asks("bent()", 0);
        // MAN 0 off the hearth, and bent, is 5 less; MAN 2, bent, is smaller than he
        b.told("hearth 0 6;plain 5 0;plain 9 0;program mirror;").makes("see(0, 1, 0)").asks("bent()", 2);
    }

    private void heights() {
        b.said(32, "HEIGHTS of a MAN (0 to 9; bits) by which, all else as it is, all is as SEEN.");
        b.told(MIDDLE).asks("heights(0)", 1023).makes("see(0, 1, 0)").asks("heights(0)", 63).asks("heights(1)", 15)
            .asks("heights(2)", 1008).makes("see(1, 1, 1)").asks("heights(0)", 0);
        // 9 alone, 0 alone: MAN 0 is to be the middle one of 9 and 8, MAN 1 that of 0 and 0
        b.told("plain 4 0;plain 9 0;plain 8 0;program mirror;").makes("see(0, 1, 0)").asks("heights(0)", 512);
        b.told("plain 0 0;plain 4 0;plain 0 0;program mirror;").makes("see(1, 1, 1)").asks("heights(1)", 1);

        b.said(32, "BAD.");
        b.told(MIDDLE).asks("heights(-1)", BAD).asks("heights(3)", BAD);
        b.told(Bounds.stairs(5)).asks("heights(4)", 1023).asks("heights(5)", BAD);
        b.nobody().asks("heights(0)", BAD);
    }

    private void shoes() {
        b.said(33, "Two MEN, the lesser first, who changed HEELS, so that all is as SEEN: 10 times the lesser and the greater, "
            + "of several the least (what 0), how many such two (1).");
        b.told(Bounds.stairs(5)).asks("shoes(0)", 1).asks("shoes(1)", 10);
        b.told(Bounds.stairs(2)).asks("shoes(0)", 1).asks("shoes(1)", 1);
        // 4, 2, 3; if 0 and 1 changed, 0, 6, 3; if 0 and 2, 0, 2, 7; if 1 and 2, as it is
        b.told("plain 0 4;plain 2 0;plain 3 0;program mirror;").makes("see(1, 1, 1)").asks("shoes(0)", 2).asks("shoes(1)", 1)
            .makes("forget(0)", "see(2, 1, 2)").asks("shoes(0)", 1).asks("shoes(1)", 2);
        // MAN 4's alone count: with MAN 2 or 3 he brings MAN 1 to the middle; 0 4 1 3 2 they are then, or 0 4 1 2 3
        b.told("plain 0 0;plain 1 0;plain 5 0;plain 3 0;plain 0 9;program mirror;").makes("see(4, 1, 4)").asks("shoes(0)", NONE)
            .makes("forget(0)", "see(3, 1, 3)").asks("shoes(0)", 1).asks("shoes(1)", 8)
            .makes("forget(0)", "see(1, 1, 1)").asks("shoes(0)", 24).asks("shoes(1)", 2)
            .makes("see(2, 1, 4)").asks("shoes(0)", 34).asks("shoes(1)", 1);

        b.said(33, "BAD;");
        b.told(MIDDLE).asks("shoes(-1)", BAD).asks("shoes(2)", BAD);
        b.nobody().asks("shoes(-1)", BAD).asks("shoes(2)", BAD);

        b.said(33, "NONE (0): there are none.");
        b.told(MIDDLE).makes("see(0, 0, 1)").asks("shoes(0)", NONE).asks("shoes(1)", 0);
        b.told("plain 0 0;").asks("shoes(0)", NONE).asks("shoes(1)", 0);
        b.nobody().asks("shoes(0)", NONE).asks("shoes(1)", 0);
    }

    private void drift() {
        b.said(34, "By itself, n FIGURES (1 to 60) by a seed: the seed becomes seed times 1103515245 and 12345; "
            + "the FIGURE is bits 16 to 30 of it modulo 4: how many were ROUND behind each, summed (what 0), "
            + "the MAN with whom WOMAN 0 is in the end (1).");
        for (int seed : new int[] {0, 1, 3, -1, 65535, Integer.MIN_VALUE, Integer.MAX_VALUE}) {
            for (int n : new int[] {1, 2, 60}) {
                drift(seed, n);
            }
        }
        Run alone = b.told("plain 0 0;");
        alone.asks("drift(5, 1, 0)", 1).asks("drift(5, 60, 0)", 60).asks("drift(5, 60, 1)", 0);
    }

    private void drift(int seed, int n) {
        HeelDance danced = Check.told(Bounds.stairs(5));
        long state = seed;
        int summed = 0;
        for (int i = 0; i < n; i++) {
            // the 32 lowest bits are the same, whatever stands above them
            state = (state * 1103515245L + 12345L) & 0xffffffffL;
            summed += danced.dance((int) (state / 65536 % 32768 % 4));
        }
        String call = "drift(" + (seed == Integer.MIN_VALUE ? "MIN" : "" + seed) + ", " + n + ", ";
        b.told(Bounds.stairs(5)).asks(call + "0)", summed).asks(call + "1)", danced.woman(0));
    }

    private void driftRefused() {
        b.said(34, "BAD;");
        b.rich().asks("drift(1, 0, 0)", BAD).asks("drift(1, -1, 0)", BAD).asks("drift(1, 61, 0)", BAD).asks("drift(1, 1, -1)", BAD)
            .asks("drift(1, 1, 2)", BAD).asks("drift(1, 60, 2)", BAD);
        b.nobody().asks("drift(1, 0, 0)", BAD).asks("drift(1, 61, 0)", BAD).asks("drift(1, 1, 2)", BAD);

        b.said(34, "STATE: there is nobody.");
        b.nobody().asks("drift(1, 1, 0)", STATE).asks("drift(1, 60, 1)", STATE);
        b.told("program up;").asks("drift(0, 1, 0)", STATE);
    }
}
