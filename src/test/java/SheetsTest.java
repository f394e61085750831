/** Promises 35 to 41: images, sheets, count. */
public final class SheetsTest {
    private static final Check CHECK = new Check("SheetsTest");
    private static final String STAIRS = "plain 0 0;plain 4 0;plain 8 0;";

    private static void due(String call, long got, long want) {
        CHECK.due(call, got, want);
    }

    public static void main(String[] args) {
        images();
        imagesOfTheSeen();
        sheet();
        lay();
        read();
        lanes();
        refusals();
        torn();
        count();
        CHECK.close();
    }

    private static void images() {
        HeelDance x = Check.told("plain 4 3;bent 5 1;hearth 9 2;cousins 0 1;program up down;");
        x.see(0, 1, 1);
        x.alter(2, 3, 6);
        x.dance(0);
        int woman = x.woman(0);
        due("35 keep(-1)", x.keep(-1), HeelDance.BAD);
        due("35 keep(2)", x.keep(2), HeelDance.BAD);
        due("35 keep(1)", x.keep(1), 0);
        due("35 keep(1)", x.keep(1), 1);
        due("36 back(0)", x.back(0), HeelDance.STATE);
        due("36 back(-1)", x.back(-1), HeelDance.BAD);
        due("36 back(2)", x.back(2), HeelDance.BAD);
        x.alter(0, 0, 3);
        x.alter(1, 1, 9);
        x.alter(1, 2, 9);
        x.alter(1, 3, 9);
        x.dance(2);
        x.swap(0, 1);
        x.kin(0, 1, false);
        x.kin(2, 2, true);
        x.cut(0);
        x.plan(3);
        x.forget(0);
        x.sheet(0, 1, 5);
        x.feed(32);
        due("36 back(1)", x.back(1), 1);
        due("36 danced", x.rule(3), 1);
        due("36 kind", x.man(0, 0), 0);
        due("36 height", x.man(1, 1), 5);
        due("36 heels", x.man(1, 2), 0);
        due("36 heat", x.man(1, 3), 0);
        due("36 heat", x.man(2, 3), 6);
        due("36 with whom", x.woman(0), woman);
        due("36 cousins", x.cousins(0), 2);
        due("36 cousins", x.cousins(2), 0);
        due("36 figures", x.rule(2), 2);
        due("36 figure(0)", x.figure(0), 0);
        due("36 figure(1)", x.figure(1), 1);
        due("36 seen", x.count(0), 1);
        due("36 sheets are no part", x.count(3), 5);
        due("36 the tape is no part", x.count(2), 1);
        x.dance(0);
        due("36 again", x.back(1), 1);
        due("36 the image stays", x.count(1), 1);
        HeelDance nobody = new HeelDance();
        due("35 nobody", nobody.keep(0), 0);
        nobody.plan(1);
        due("36 nobody", nobody.back(0), 0);
        due("36 nobody", nobody.rule(2), 0);
    }

    private static void imagesOfTheSeen() {
        HeelDance x = Check.told("plain 0 4;plain 2 0;plain 9 0;program mirror;");
        x.see(0, 1, 0);
        x.keep(0);
        int[][] others = {{0, 1, 1}, {1, 1, 0}, {0, 0, 0}, {2, 0, 1}};
        for (int[] other : others) {
            x.forget(0);
            x.see(other[0], other[1], other[2]);
            x.back(0);
            due("36 as was seen", x.heights(0), 63);
        }
        x.forget(0);
        x.see(1, 1, 2);
        x.keep(1);
        x.back(0);
        x.forget(0);
        x.see(2, 0, 0);
        x.back(1);
        due("36 as was seen", x.heights(1), 15);
        x.swap(0, 1);
        x.see(0, 0, 1);
        x.back(0);
        due("36 one alone", x.count(0), 1);
        due("36 one alone", x.heights(0), 63);
    }

    private static void sheet() {
        HeelDance x = new HeelDance();
        due("37 k", x.sheet(-1, 0, 1), HeelDance.BAD);
        due("37 k", x.sheet(4, 0, 1), HeelDance.BAD);
        due("37 lane", x.sheet(0, -1, 1), HeelDance.BAD);
        due("37 lane", x.sheet(0, 3, 1), HeelDance.BAD);
        due("37 n", x.sheet(0, 0, 41), HeelDance.BAD);
        due("37 n below 0", x.sheet(0, 0, -1), -14);
        due("37 n below 0, lane", x.sheet(0, 3, -1), HeelDance.BAD);
        due("37 none yet", x.count(3), HeelDance.NONE);
        due("37 40", x.sheet(0, 2, 40), 1);
        due("37 refused", x.sheet(0, 0, Integer.MIN_VALUE), -14);
        due("37 refused", x.count(3), 40);
        due("37 0", x.sheet(0, 1, 0), 1);
        due("37 0", x.count(3), 0);
        due("37 the last", x.sheet(3, 0, 1), 1);
        HeelDance y = Check.told(STAIRS);
        y.sheet(0, 0, 2);
        y.lay(0, 0, 9);
        y.sheet(0, 0, 2);
        due("37 cells are 0", y.read(0, 0, 0, 2), 2);
        due("37 cells are 0", y.woman(0), 2);
    }

    private static void lay() {
        HeelDance x = new HeelDance();
        due("38 nothing", x.lay(2, 0, 0), -11);
        due("38 nothing, no cell", x.lay(2, -1, 0), -11);
        x.sheet(2, 1, 3);
        due("38 k", x.lay(-1, 0, 0), HeelDance.BAD);
        due("38 k", x.lay(4, 0, 0), HeelDance.BAD);
        due("38 i", x.lay(2, -1, 0), -12);
        due("38 i", x.lay(2, 3, 0), -12);
        due("38 i", x.lay(2, Integer.MAX_VALUE, 0), -12);
        due("38 i", x.lay(2, 2, Integer.MIN_VALUE), 1);
        x.sheet(2, 1, 0);
        due("38 no cells", x.lay(2, 0, 0), -12);
    }

    private static void read() {
        HeelDance x = Check.told(STAIRS);
        x.sheet(1, 0, 4);
        x.lay(1, 1, 3);
        x.lay(1, 2, 1);
        x.lay(1, 3, 2);
        due("39 none", x.read(1, 0, 0, 0), 0);
        due("39 none", x.rule(3), 0);
        // up: 1 2 0, mirror: 1 0 2
        due("39 two", x.read(1, 0, 0, 2), 2);
        due("39 woman(0)", x.woman(0), 1);
        due("39 woman(1)", x.woman(1), 0);
        due("39 woman(2)", x.woman(2), 2);
        due("39 heat", x.man(2, 3), 1);
        due("39 danced", x.rule(3), 2);
        // down: 0 2 1, waltz: 2 1 0
        due("39 two more", x.read(1, 0, 2, 2), 2);
        due("39 woman(0)", x.woman(0), 2);
        due("39 woman(1)", x.woman(1), 1);
        due("39 past the last", x.read(1, 0, 3, 5), 1);
        due("39 what was whole is danced", x.rule(3), 5);
        due("40 index", x.torn(), 2);
        due("39 ahead of the first", x.read(1, 0, -1, 2), 0);
        due("40 index", x.torn(), 2);
        due("39 far", x.read(1, 0, Integer.MAX_VALUE, 20), 0);
        due("39 far", x.read(1, 0, Integer.MIN_VALUE, 20), 0);
        due("39 danced", x.rule(3), 5);
        due("39 k", x.read(-1, 0, 0, 0), HeelDance.BAD);
        due("39 k", x.read(4, 0, 0, 0), HeelDance.BAD);
        due("39 lane", x.read(1, -1, 0, 0), HeelDance.BAD);
        due("39 lane", x.read(1, 3, 0, 0), HeelDance.BAD);
        due("39 n", x.read(1, 0, 0, -1), HeelDance.BAD);
        due("39 n", x.read(1, 0, 0, 21), HeelDance.BAD);
        x.sheet(1, 2, 20);
        due("39 twenty", x.read(1, 2, 0, 20), 20);
    }

    private static void lanes() {
        HeelDance x = Check.told(STAIRS);
        for (int lane = 0; lane < 3; lane++) {
            x.sheet(lane, lane, 3);
            x.lay(lane, 0, 256);
            x.lay(lane, 1, 65536 + 3);
            x.lay(lane, 2, -1);
        }
        due("38 a byte's lowest bits", x.read(0, 0, 0, 2), 2);
        due("38 a byte below 0", x.read(0, 0, 2, 1), -20);
        due("38 a short's lowest bits", x.read(1, 1, 0, 1), -20);
        due("38 a short's lowest bits", x.read(1, 1, 1, 1), 1);
        due("38 a short below 0", x.read(1, 1, 2, 1), -20);
        due("38 an int's lowest bits", x.read(2, 2, 0, 1), -20);
        due("38 an int's lowest bits", x.read(2, 2, 1, 1), -20);
        for (int k = 0; k < 3; k++) {
            for (int lane = 0; lane < 3; lane++) {
                if (k != lane) {
                    due("39 another lane", x.read(k, lane, 0, 1), 0);
                    due("40 cast", x.torn(), 3);
                }
            }
        }
        due("39 another lane, no cell", x.read(0, 1, 7, 1), 0);
        due("40 cast", x.torn(), 3);
        due("39 nothing", x.read(3, 0, 0, 1), 0);
        due("40 null", x.torn(), 1);
    }

    private static void refusals() {
        HeelDance x = Check.told(STAIRS);
        x.sheet(0, 0, 3);
        x.lay(0, 2, 4);
        due("39 the third", x.read(0, 0, 0, 3), -22);
        due("39 none is danced", x.rule(3), 0);
        due("39 none is danced", x.woman(0), 0);
        due("39 the second", x.read(0, 0, 1, 20), -21);
        due("39 the first", x.read(0, 0, 2, 20), -20);
        x.lay(0, 2, 0);
        due("39 the machine is first", x.read(0, 0, 2, 2), 1);
        HeelDance nobody = new HeelDance();
        nobody.sheet(0, 0, 3);
        due("39 nobody", nobody.read(0, 0, 0, 1), -20);
        due("39 nobody", nobody.read(0, 0, 0, 0), 0);
        due("39 nobody, no cell", nobody.read(0, 0, 3, 1), 0);
        due("40 nobody, no cell", nobody.torn(), 2);
    }

    private static void torn() {
        HeelDance x = Check.told(STAIRS);
        x.sheet(0, 0, 2);
        x.lay(0, 1, 7);
        x.read(0, 1, 0, 1);
        due("40 cast", x.torn(), 3);
        x.read(0, 0, 0, 2);
        due("40 a refused read doesn't count", x.torn(), 3);
        x.read(0, 0, 0, 21);
        due("40 nor a bad one", x.torn(), 3);
        x.read(0, 0, 0, 1);
        due("40 a whole one does", x.torn(), 0);
        x.lay(0, 9, 0);
        due("40 lay doesn't", x.torn(), 0);
        x.read(3, 0, 0, 1);
        due("40 null", x.torn(), 1);
        x.read(0, 0, 0, 0);
        due("40 a read of none", x.torn(), 0);
    }

    private static void count() {
        HeelDance x = Check.told("plain 4 3;bent 5 1;hearth 9 2;");
        due("41 count(-1)", x.count(-1), HeelDance.BAD);
        due("41 count(6)", x.count(6), HeelDance.BAD);
        x.see(0, 0, 0);
        due("41 seen", x.count(0), 1);
        x.keep(1);
        due("41 images", x.count(1), 1);
        x.keep(0);
        due("41 images", x.count(1), 2);
        x.feed(1);
        due("41 bytes", x.count(2), 1);
        x.sheet(1, 0, 3);
        due("41 cells of another sheet", x.count(3), HeelDance.NONE);
        x.sheet(0, 0, 9);
        due("41 cells", x.count(3), 9);
        due("41 heels", x.count(4), 6);
        due("41 heat", x.count(5), 0);
        x.alter(0, 3, 4);
        x.alter(2, 3, 5);
        due("41 heat", x.count(5), 9);
        x.text();
        due("41 heels stay behind a fault", x.count(4), 6);
    }
}
