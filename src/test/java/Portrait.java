import java.util.ArrayList;
import java.util.List;

/**
 * All that an object tells of itself, but fault(): two of the same portrait have the same men, images, sheets, tape.
 * The object is used up by it: images are gone back to, the tape is read, cells are danced.
 */
final class Portrait {
    /** Calls that are made beside those whose answers are listed, at the most. */
    static final int MORE_CALLS = 90;
    private static final String FOUR = "plain0 0;plain3 0;plain6 0;plain9 0;";
    private final HeelDance x;
    private final List<String> answers = new ArrayList<>();

    private Portrait(HeelDance x) {
        this.x = x;
    }

    static List<String> of(HeelDance x) {
        Portrait p = new Portrait(x);
        p.note("torn", x.torn());
        p.evening("now");
        for (int k = 0; k < 2; k++) {
            p.note("image " + k, x.back(k));
            p.evening("image " + k);
        }
        p.note("bytes", x.count(2));
        p.note("text of the tape", x.text());
        p.note("fault of the tape", x.fault());
        p.men("told by the tape");
        p.sheets();
        return p.answers;
    }

    private void note(String what, long answer) {
        answers.add(what + " = " + answer);
    }

    private void evening(String when) {
        for (int what = 0; what <= 3; what++) {
            note(when + ", rule " + what, x.rule(what));
        }
        men(when);
        for (int i = 0; i < x.rule(2); i++) {
            note(when + ", figure " + i, x.figure(i));
        }
        note(when + ", best of one", x.best(1, 0));
        note(when + ", orders", x.orders(1));
        note(when + ", seen", x.count(0));
        note(when + ", bent", x.bent());
        note(when + ", shoes", x.shoes(0));
        note(when + ", shoes", x.shoes(1));
    }

    private void men(String when) {
        int men = x.rule(0);
        for (int m = 0; m < men; m++) {
            for (int what : new int[] {0, 1, 2, 3, 6}) {
                note(when + ", man " + m + ", " + what, x.man(m, what));
            }
            note(when + ", cousins of " + m, x.cousins(m));
            note(when + ", heights of " + m, x.heights(m));
        }
    }

    private void sheets() {
        note("men to dance", Check.tell(x, FOUR));
        for (int k = 0; k < 4; k++) {
            int lane = 0;
            while (lane < 2 && x.read(k, lane, -1, 1) == 0 && x.torn() == 3) {
                lane++;
            }
            note("lane of sheet " + k, lane);
            for (int i = 0; i < 4; i++) {
                note("sheet " + k + ", cell " + i, x.read(k, lane, i, 1));
                note("sheet " + k + ", cell " + i + ", danced", x.woman(0));
            }
            note("torn of sheet " + k, x.torn());
            note("last of sheet " + k, x.lay(k, 39, 0));
        }
        note("cells of sheet 0", x.count(3));
    }
}
