import java.math.BigInteger;
import java.util.ArrayList;
import java.util.Arrays;
import java.util.Comparator;
import java.util.List;
import java.util.TreeSet;
import java.util.regex.Matcher;
import java.util.regex.Pattern;

/** The document written down a second time, as plainly as the Java library lets one: what ReferenceTest compares with. */
final class PlainDance {
    static final int BAD = -1, STATE = -2, FULL = -3, NONE = -4;
    private static final List<String> KINDS = List.of("plain", "booted", "bent", "hearth");
    private static final List<String> FIGURES = List.of("up", "down", "waltz", "mirror");

    static final class Man {
        int number, kind, height, heels, heat;

        Man copy() {
            Man c = new Man();
            c.number = number;
            c.kind = kind;
            c.height = height;
            c.heels = heels;
            c.heat = heat;
            return c;
        }

        int stature() {
            return height + heels + (kind == 2 ? -2 : kind == 3 ? 3 : 0);
        }
    }

    static final class World {
        List<Man> men = new ArrayList<>();
        List<Integer> with = new ArrayList<>();
        TreeSet<String> cousins = new TreeSet<>();
        int danced;
        List<Integer> program = new ArrayList<>();
        List<int[]> seen = new ArrayList<>();

        World copy() {
            World c = new World();
            men.forEach(m -> c.men.add(m.copy()));
            c.with.addAll(with);
            c.cousins.addAll(cousins);
            c.danced = danced;
            c.program.addAll(program);
            c.seen.addAll(seen);
            return c;
        }

        List<Man> ranked() {
            List<Man> r = new ArrayList<>(men);
            r.sort(Comparator.comparingInt(Man::stature).thenComparing(m -> -m.heat).thenComparing(m -> m.number));
            return r;
        }

        void move(List<Man> ranked, int f) {
            int n = men.size();
            for (int w = 0; w < n; w++) {
                int r = ranked.indexOf(men.get(with.get(w)));
                int to = f == 0 ? r + 1 : f == 1 ? r - 1 : f == 2 ? r + 2 : n - 1 - r;
                with.set(w, ranked.get(Math.floorMod(to, n)).number);
            }
        }

        World danced(int f) {
            World c = copy();
            c.move(c.ranked(), f);
            for (Man m : c.men) {
                int less = m.kind == 3 ? 0 : m.kind == 1 ? c.danced % 2 : 1;
                m.heels = Math.max(0, m.heels - less);
                if (c.with.get(m.number) == m.number) {
                    m.heat = Math.min(9, m.heat + 1);
                }
            }
            c.danced = Math.min(999, c.danced + 1);
            return c;
        }

        World behind(List<Integer> figures) {
            World c = this;
            for (int f : figures) {
                c = c.danced(f);
            }
            return c;
        }

        World behindProgram(int k) {
            return behind(program.subList(0, Math.min(k, program.size())));
        }

        int round() {
            int bits = 0;
            for (int w = 0; w < men.size(); w++) {
                bits += with.get(w) == w ? 1 << w : 0;
            }
            return bits;
        }

        int rounds() {
            return Integer.bitCount(round());
        }

        int meetings() {
            int n = 0;
            for (int w = 0; w < men.size(); w++) {
                n += cousins.contains(w + "," + with.get(w)) ? 1 : 0;
            }
            return n;
        }

        boolean meetsIn(List<Integer> figures) {
            for (int k = 1; k <= figures.size(); k++) {
                if (behind(figures.subList(0, k)).meetings() > 0) {
                    return true;
                }
            }
            return false;
        }

        boolean asSeen() {
            return seen.stream().allMatch(s -> behindProgram(s[1]).with.get(s[0]) == s[2]);
        }
    }

    private static final class Faulty extends Exception {
        final int fault, place;

        Faulty(int fault, int place) {
            this.fault = fault;
            this.place = place;
        }
    }

    private StringBuilder tape = new StringBuilder();
    private World now = new World();
    private final World[] images = new World[2];
    private final Object[] sheets = new Object[4];
    private int fault, torn;
    // the reading of a text
    private String source;
    private int place, tokenAt;

    int feed(int c) {
        if (c < 0 || c > 127) return BAD;
        if (tape.length() == 160) return FULL;
        tape.append((char) c);
        return tape.length();
    }

    int end(int n) {
        if (n < 0 || n > tape.length()) return BAD;
        int had = tape.length();
        tape.setLength(n);
        return had;
    }

    private static final Pattern TOKEN = Pattern.compile(" *([a-z]+|[0-9]+|;)");

    /** "" at the end. */
    private String token() throws Faulty {
        Matcher m = TOKEN.matcher(source).region(place, source.length());
        if (!m.lookingAt()) {
            while (place < source.length() && source.charAt(place) == ' ') place++;
            tokenAt = place;
            if (place == source.length()) return "";
            throw new Faulty(1, place);
        }
        tokenAt = m.start(1);
        place = m.end();
        String t = m.group(1);
        if (t.matches("[0-9]{3,}")) throw new Faulty(1, tokenAt);
        return t;
    }

    private int number(int most) throws Faulty {
        String t = token();
        if (!t.matches("[0-9]+")) throw new Faulty(2, tokenAt);
        int n = Integer.parseInt(t);
        if (n > most) throw new Faulty(3, tokenAt);
        return n;
    }

    private void semicolon() throws Faulty {
        if (!token().equals(";")) throw new Faulty(2, tokenAt);
    }

    int text() {
        source = tape.toString();
        place = 0;
        tape = new StringBuilder();
        World told = new World();
        try {
            int lines = 0;
            boolean programmed = false;
            for (String t = token(); !t.isEmpty(); t = token()) {
                if (KINDS.contains(t)) {
                    if (told.men.size() == 5) throw new Faulty(5, tokenAt);
                    Man m = new Man();
                    m.number = told.men.size();
                    m.kind = KINDS.indexOf(t);
                    m.height = number(9);
                    m.heels = number(9);
                    semicolon();
                    told.with.add(m.number);
                    told.men.add(m);
                } else if (t.equals("cousins")) {
                    if (told.cousins.size() == 6) throw new Faulty(5, tokenAt);
                    int w = number(4);
                    int m = number(4);
                    if (!told.cousins.add(w + "," + m)) throw new Faulty(4, tokenAt);
                    semicolon();
                } else if (t.equals("program")) {
                    if (programmed) throw new Faulty(4, tokenAt);
                    programmed = true;
                    for (String f = token(); !f.equals(";"); f = token()) {
                        if (told.program.size() == 8 && f.matches("[a-z]+")) throw new Faulty(5, tokenAt);
                        if (!FIGURES.contains(f)) throw new Faulty(2, tokenAt);
                        told.program.add(FIGURES.indexOf(f));
                    }
                } else {
                    throw new Faulty(2, tokenAt);
                }
                lines++;
            }
            for (String pair : told.cousins) {
                for (String who : pair.split(",")) {
                    if (Integer.parseInt(who) >= told.men.size()) throw new Faulty(6, source.length());
                }
            }
            now = told;
            Arrays.fill(images, null);
            fault = 0;
            return lines;
        } catch (Faulty f) {
            fault = f.fault;
            return -10 - f.place;
        }
    }

    int fault() {
        return fault;
    }

    private boolean no(int who) {
        return who < 0 || who >= now.men.size();
    }

    int rule(int what) {
        int[] all = {now.men.size(), now.cousins.size(), now.program.size(), now.danced, now.round()};
        return what < 0 || what > 4 ? BAD : all[what];
    }

    int man(int m, int what) {
        if (no(m) || what < 0 || what > 6) return BAD;
        Man x = now.men.get(m);
        return new int[] {x.kind, x.height, x.heels, x.heat, x.stature() + 2, now.ranked().indexOf(x),
            now.with.indexOf(m)}[what];
    }

    int woman(int w) {
        return no(w) ? BAD : now.with.get(w);
    }

    int at(int rank) {
        return no(rank) ? BAD : now.ranked().get(rank).number;
    }

    int figure(int i) {
        return i < 0 || i >= now.program.size() ? BAD : now.program.get(i);
    }

    int cousins(int w) {
        if (no(w)) return BAD;
        int bits = 0;
        for (int m = 0; m < 5; m++) bits |= now.cousins.contains(w + "," + m) ? 1 << m : 0;
        return bits;
    }

    int alter(int m, int what, int v) {
        if (no(m) || what < 0 || what > 3 || v < 0 || v > (what == 0 ? 3 : 9)) return BAD;
        int was = man(m, what);
        Man x = now.men.get(m);
        if (what == 0) x.kind = v;
        if (what == 1) x.height = v;
        if (what == 2) x.heels = v;
        if (what == 3) x.heat = v;
        return was;
    }

    int swap(int w, int u) {
        if (no(w) || no(u) || w == u) return BAD;
        java.util.Collections.swap(now.with, w, u);
        return now.with.get(w);
    }

    int kin(int w, int m, boolean is) {
        if (no(w) || no(m)) return BAD;
        String pair = w + "," + m;
        if (now.cousins.contains(pair)) {
            if (!is) now.cousins.remove(pair);
            return 1;
        }
        if (is && now.cousins.size() == 6) return FULL;
        if (is) now.cousins.add(pair);
        return 0;
    }

    int plan(int f) {
        if (f < 0 || f > 3) return BAD;
        if (now.program.size() == 8) return FULL;
        now.program.add(f);
        return now.program.size();
    }

    int cut(int n) {
        int had = now.program.size();
        if (n < 0 || n > had) return BAD;
        now.program.subList(n, had).clear();
        return had;
    }

    int dance(int f) {
        if (f < 0 || f > 3) return BAD;
        if (now.men.isEmpty()) return STATE;
        now = now.danced(f);
        return now.rounds();
    }

    int runs(int what) {
        if (what < 0 || what > 4) return BAD;
        World last = now.behindProgram(8);
        int meetings = 0;
        int first = NONE;
        for (int k = 1; k <= now.program.size(); k++) {
            int n = now.behindProgram(k).meetings();
            meetings += n;
            if (n > 0 && first == NONE) first = k;
        }
        return new int[] {last.rounds(), last.round(), meetings, first, last.men.stream().mapToInt(m -> m.heels).sum()}[what];
    }

    int ahead(int w, int k) {
        return no(w) || k < 0 || k > 8 ? BAD : now.behindProgram(k).with.get(w);
    }

    int meets(int w, int m) {
        if (no(w) || no(m)) return BAD;
        for (int k = 0; k <= now.program.size(); k++) {
            if (now.behindProgram(k).with.get(w) == m) return k;
        }
        return NONE;
    }

    int never(int w) {
        if (no(w)) return BAD;
        int bits = 0;
        for (int m = 0; m < now.men.size(); m++) bits |= meets(w, m) == NONE ? 1 << m : 0;
        return bits;
    }

    int period(int f) {
        if (f < 0 || f > 3) return BAD;
        World turning = now.copy();
        for (int i = 1; i <= 60 && !now.men.isEmpty(); i++) {
            turning.move(turning.ranked(), f);
            if (turning.with.equals(now.with)) return i;
        }
        return NONE;
    }

    int best(int n, int what) {
        if (n < 0 || n > 4 || what != 0 && what < 10) return BAD;
        List<Integer> best = null;
        for (int code = 0; code < 1 << 2 * n; code++) {
            List<Integer> row = new ArrayList<>();
            for (int i = n - 1; i >= 0; i--) row.add(code >> 2 * i & 3);
            if (!now.meetsIn(row) && (best == null || now.behind(row).rounds() > now.behind(best).rounds())) best = row;
        }
        if (best == null) return NONE;
        return what == 0 ? now.behind(best).rounds() : what - 10 < n ? best.get(what - 10) : NONE;
    }

    private static void permute(List<Integer> head, int n, List<List<Integer>> into) {
        if (head.size() == n) into.add(head);
        for (int i = 0; i < n; i++) {
            if (!head.contains(i)) {
                List<Integer> longer = new ArrayList<>(head);
                longer.add(i);
                permute(longer, n, into);
            }
        }
    }

    int orders(int what) {
        if (what < 0 || what > 1 && what < 10) return BAD;
        int n = now.program.size();
        if (n > 5) return STATE;
        List<List<Integer>> all = new ArrayList<>();
        permute(new ArrayList<>(), n, all);
        int count = 0;
        int most = NONE;
        List<Integer> first = null;
        for (List<Integer> places : all) {
            List<Integer> row = places.stream().map(now.program::get).toList();
            if (!now.meetsIn(row)) {
                count++;
                most = Math.max(most, now.behind(row).rounds());
                if (first == null) first = places;
            }
        }
        if (what == 0) return count;
        if (what == 1) return most;
        return first == null || what - 10 >= n ? NONE : first.get(what - 10);
    }

    private World repeating(int bits) {
        List<Integer> row = new ArrayList<>();
        for (int i = 0; i < now.program.size(); i++) {
            row.add(now.program.get(i));
            if ((bits & 1 << i) != 0) row.add(now.program.get(i));
        }
        return now.behind(row);
    }

    int again(int what) {
        if (what < 0 || what > 1) return BAD;
        int place = NONE;
        int most = now.behindProgram(8).rounds();
        for (int i = 0; i < now.program.size(); i++) {
            int n = repeating(1 << i).rounds();
            if (n > most) {
                most = n;
                place = i;
            }
        }
        return place == NONE ? NONE : what == 0 ? place : most;
    }

    int coins(int some) {
        if (some < 0 || some >> now.men.size() != 0) return BAD;
        int n = now.program.size();
        if (n > 5) return STATE;
        for (int paid = 0; paid <= n; paid++) {
            for (int bits = 0; bits < 1 << n; bits++) {
                if (Integer.bitCount(bits) == paid && (some & ~repeating(bits).round()) == 0) return paid;
            }
        }
        return NONE;
    }

    /** The odds that the men from m on break as they may, each tried both ways. */
    private BigInteger odds(World w, int m, int v, int women) {
        if (m == w.men.size()) return BigInteger.valueOf(Integer.bitCount(w.behindProgram(8).round() & women));
        World broken = w.copy();
        broken.men.get(m).heels = 0;
        return odds(broken, m + 1, v, women).multiply(BigInteger.valueOf(v))
            .add(odds(w, m + 1, v, women).multiply(BigInteger.valueOf(10 - v)));
    }

    private long lowest(BigInteger upper, int what) {
        BigInteger lower = BigInteger.TEN.pow(now.men.size());
        BigInteger common = upper.gcd(lower);
        return (what == 0 ? upper : lower).divide(common).longValueExact();
    }

    long luck(int v, int w, int what) {
        return v < 0 || v > 10 || no(w) || what < 0 || what > 1 ? BAD : lowest(odds(now, 0, v, 1 << w), what);
    }

    long mean(int v, int what) {
        return v < 0 || v > 10 || what < 0 || what > 1 ? BAD : lowest(odds(now, 0, v, 31), what);
    }

    int see(int w, int k, int m) {
        if (no(w) || k < 0 || k > 8 || no(m)) return BAD;
        if (now.seen.size() == 6) return FULL;
        now.seen.add(new int[] {w, k, m});
        return now.seen.size();
    }

    int forget(int n) {
        int had = now.seen.size();
        if (n < 0 || n > had) return BAD;
        now.seen.subList(n, had).clear();
        return had;
    }

    int bent() {
        int bits = 0;
        for (int m = 0; m < now.men.size(); m++) {
            World c = now.copy();
            c.men.get(m).kind = 2;
            bits |= c.asSeen() ? 1 << m : 0;
        }
        return bits;
    }

    int heights(int m) {
        if (no(m)) return BAD;
        int bits = 0;
        for (int h = 0; h < 10; h++) {
            World c = now.copy();
            c.men.get(m).height = h;
            bits |= c.asSeen() ? 1 << h : 0;
        }
        return bits;
    }

    int shoes(int what) {
        if (what < 0 || what > 1) return BAD;
        TreeSet<Integer> pairs = new TreeSet<>();
        for (int i = 0; i < now.men.size(); i++) {
            for (int j = i + 1; j < now.men.size(); j++) {
                World c = now.copy();
                c.men.get(i).heels = now.men.get(j).heels;
                c.men.get(j).heels = now.men.get(i).heels;
                if (c.asSeen()) pairs.add(10 * i + j);
            }
        }
        return what == 1 ? pairs.size() : pairs.isEmpty() ? NONE : pairs.first();
    }

    int drift(int seed, int n, int what) {
        if (n < 1 || n > 60 || what < 0 || what > 1) return BAD;
        if (now.men.isEmpty()) return STATE;
        World w = now;
        int sum = 0;
        BigInteger s = BigInteger.valueOf(seed);
        for (int i = 0; i < n; i++) {
            s = s.multiply(BigInteger.valueOf(1103515245)).add(BigInteger.valueOf(12345)).mod(BigInteger.ONE.shiftLeft(32));
            w = w.danced(s.shiftRight(16).mod(BigInteger.valueOf(32768)).intValue() % 4);
            sum += w.rounds();
        }
        return what == 0 ? sum : w.with.get(0);
    }

    int keep(int k) {
        if (k < 0 || k > 1) return BAD;
        int was = images[k] == null ? 0 : 1;
        images[k] = now.copy();
        return was;
    }

    int back(int k) {
        if (k < 0 || k > 1) return BAD;
        if (images[k] == null) return STATE;
        now = images[k].copy();
        return now.danced;
    }

    int sheet(int k, int lane, int n) {
        if (k < 0 || k > 3 || lane < 0 || lane > 2 || n > 40) return BAD;
        try {
            sheets[k] = lane == 0 ? new byte[n] : lane == 1 ? new short[n] : new int[n];
            return 1;
        } catch (NegativeArraySizeException e) {
            return -14;
        }
    }

    int lay(int k, int i, int v) {
        if (k < 0 || k > 3) return BAD;
        try {
            if (sheets[k] instanceof byte[] row) row[i] = (byte) v;
            else if (sheets[k] instanceof short[] row) row[i] = (short) v;
            else ((int[]) sheets[k])[i] = v;
            return 1;
        } catch (NullPointerException e) {
            return -11;
        } catch (ArrayIndexOutOfBoundsException e) {
            return -12;
        }
    }

    int read(int k, int lane, int f, int n) {
        if (k < 0 || k > 3 || lane < 0 || lane > 2 || n < 0 || n > 20) return BAD;
        World before = now;
        int found = 0;
        int i = 0;
        try {
            for (; i < n; i++) {
                int cell = lane == 0 ? ((byte[]) sheets[k])[f + i] : lane == 1 ? ((short[]) sheets[k])[f + i] : ((int[]) sheets[k])[f + i];
                if (dance(cell) < 0) {
                    now = before;
                    return -20 - i;
                }
            }
        } catch (NullPointerException e) {
            found = 1;
        } catch (ArrayIndexOutOfBoundsException e) {
            found = 2;
        } catch (ClassCastException e) {
            found = 3;
        }
        torn = found;
        return i;
    }

    int torn() {
        return torn;
    }

    int count(int what) {
        if (what < 0 || what > 5) return BAD;
        int kept = (images[0] == null ? 0 : 1) + (images[1] == null ? 0 : 1);
        int cells = sheets[0] == null ? NONE : java.lang.reflect.Array.getLength(sheets[0]);
        return new int[] {now.seen.size(), kept, tape.length(), cells,
            now.men.stream().mapToInt(m -> m.heels).sum(), now.men.stream().mapToInt(m -> m.heat).sum()}[what];
    }
}
