import java.util.ArrayList;
import java.util.Arrays;
import java.util.HashSet;
import java.util.List;
import java.util.NoSuchElementException;
import java.util.Set;
import java.util.TreeMap;
import java.util.function.ToIntFunction;

/**
 * The document once more, written as plainly as can be and with other means than GapSongs (lists, trees of
 * functions, whole copies), so that a slip in one of the two shows when both are asked the same.
 */
final class Model {
    static final int NONE = -1;

    // ---- what is told ----

    static final class World {
        int day;
        /** By person, song: null (hasn't it) or the notes, null for a gap. */
        List<List<Integer[]>> have = new ArrayList<>();
        List<List<Integer>> teacher = new ArrayList<>();
        /** By person: null, or the song and of whom. */
        List<int[]> seeks = new ArrayList<>();

        World copy() {
            World w = new World();
            w.day = day;
            for (List<Integer[]> row : have) {
                List<Integer[]> r = new ArrayList<>();
                for (Integer[] notes : row) {
                    r.add(notes == null ? null : notes.clone());
                }
                w.have.add(r);
            }
            for (List<Integer> row : teacher) {
                w.teacher.add(new ArrayList<>(row));
            }
            for (int[] s : seeks) {
                w.seeks.add(s == null ? null : s.clone());
            }
            return w;
        }
    }

    interface Expr extends ToIntFunction<TreeMap<String, Integer>> {
    }

    static final class Text {
        List<int[]> songs = new ArrayList<>();
        List<int[]> people = new ArrayList<>();
        List<int[]> has = new ArrayList<>();
        TreeMap<Integer, int[]> seeks = new TreeMap<>();
        Expr forgets;
        Expr fills;
    }

    static final class Fault extends RuntimeException {
        private static final long serialVersionUID = 1L;
        final int kind;
        final int place;

        Fault(int kind, int place) {
            super(kind + " at " + place);
            this.kind = kind;
            this.place = place;
        }
    }

    /** All tokens are cut first; then the grammar goes over the list. */
    static final class Grammar {
        final List<String> tokens = new ArrayList<>();
        final List<Integer> places = new ArrayList<>();
        int at = 0;
        Set<String> values = new HashSet<>();

        Grammar(byte[] text, int n) {
            String all = new String(text, 0, n, java.nio.charset.StandardCharsets.ISO_8859_1);
            java.util.regex.Matcher m = java.util.regex.Pattern.compile("[a-z]+|[0-9]+|[^ \n]").matcher(all);
            while (m.find()) {
                tokens.add(m.group());
                places.add(m.start());
            }
            tokens.add("");
            places.add(n);
        }

        String tok() {
            return tokens.get(at);
        }

        boolean number() {
            return tok().matches("[0-9]+");
        }

        boolean word() {
            return tok().matches("[a-z]+");
        }

        Fault bad(int kind) {
            return new Fault(kind, places.get(at));
        }

        int num(int max) {
            if (!number()) {
                throw bad(1);
            }
            if (tok().length() > 4 || Integer.parseInt(tok()) > max) {
                throw bad(2);
            }
            return Integer.parseInt(tokens.get(at++));
        }

        int id(int many) {
            if (!number()) {
                throw bad(1);
            }
            if (tok().length() > 4) {
                throw bad(2);
            }
            int v = Integer.parseInt(tok());
            if (v >= many) {
                throw bad(3);
            }
            return v;
        }

        Text read() {
            Text t = new Text();
            while (!tok().isEmpty()) {
                String key = tok();
                switch (key) {
                    case "song":
                        if (t.songs.size() == 5) {
                            throw bad(2);
                        }
                        at++;
                        List<Integer> notes = new ArrayList<>();
                        notes.add(num(9));
                        while (number()) {
                            if (notes.size() == 8) {
                                throw bad(2);
                            }
                            notes.add(num(9));
                        }
                        t.songs.add(notes.stream().mapToInt(Integer::intValue).toArray());
                        break;
                    case "person":
                        if (t.people.size() == 7) {
                            throw bad(2);
                        }
                        at++;
                        int memory = num(9);
                        t.people.add(new int[] {memory, num(9)});
                        break;
                    case "has":
                        at++;
                        int p = id(t.people.size());
                        at++;
                        int s = id(t.songs.size());
                        for (int[] h : t.has) {
                            if (h[0] == p && h[1] == s) {
                                throw bad(4);
                            }
                        }
                        at++;
                        t.has.add(new int[] {p, s, num(255)});
                        break;
                    case "seeks":
                        at++;
                        int who = id(t.people.size());
                        if (t.seeks.containsKey(who)) {
                            throw bad(4);
                        }
                        at++;
                        int what = id(t.songs.size());
                        at++;
                        int whom = id(t.people.size());
                        if (whom == who) {
                            throw bad(4);
                        }
                        at++;
                        t.seeks.put(who, new int[] {what, whom});
                        break;
                    case "forgets":
                        if (t.forgets != null) {
                            throw bad(5);
                        }
                        at++;
                        values = Set.of("memory", "wit", "note", "place", "gaps", "with", "day");
                        t.forgets = or(0);
                        break;
                    case "fills":
                        if (t.fills != null) {
                            throw bad(5);
                        }
                        at++;
                        values = Set.of("wit", "place", "before", "after", "day");
                        t.fills = or(0);
                        break;
                    default:
                        throw bad(1);
                }
                if (!tok().equals(";")) {
                    throw bad(1);
                }
                at++;
            }
            return t;
        }

        Expr or(int within) {
            if (within == 6 && (number() || word() || tok().equals("("))) {
                throw bad(2);
            }
            Expr left = and(within);
            while (tok().equals("or")) {
                at++;
                Expr l = left;
                Expr r = and(within);
                left = v -> l.applyAsInt(v) != 0 | r.applyAsInt(v) != 0 ? 1 : 0;
            }
            return left;
        }

        Expr and(int within) {
            Expr left = not(within);
            while (tok().equals("and")) {
                at++;
                Expr l = left;
                Expr r = not(within);
                left = v -> l.applyAsInt(v) != 0 & r.applyAsInt(v) != 0 ? 1 : 0;
            }
            return left;
        }

        Expr not(int within) {
            if (tok().equals("not")) {
                if (at >= 6 && tokens.subList(at - 6, at).stream().allMatch("not"::equals)) {
                    throw bad(2);
                }
                at++;
                Expr e = not(within);
                return v -> e.applyAsInt(v) == 0 ? 1 : 0;
            }
            Expr l = sum(within);
            if (tok().equals("<")) {
                at++;
                Expr r = sum(within);
                return v -> l.applyAsInt(v) < r.applyAsInt(v) ? 1 : 0;
            }
            if (tok().equals("=")) {
                at++;
                Expr r = sum(within);
                return v -> l.applyAsInt(v) == r.applyAsInt(v) ? 1 : 0;
            }
            return l;
        }

        Expr sum(int within) {
            Expr left = product(within);
            while (tok().equals("+") || tok().equals("-")) {
                int f = tokens.get(at++).equals("+") ? 1 : -1;
                Expr l = left;
                Expr r = product(within);
                left = v -> l.applyAsInt(v) + f * r.applyAsInt(v);
            }
            return left;
        }

        Expr product(int within) {
            Expr left = part(within);
            while (tok().equals("*") || tok().equals("/")) {
                boolean times = tokens.get(at++).equals("*");
                Expr l = left;
                Expr r = part(within);
                left = v -> {
                    long a = l.applyAsInt(v);
                    long b = r.applyAsInt(v);
                    return (int) (times ? a * b : b == 0 ? 0 : a / b);
                };
            }
            return left;
        }

        Expr part(int within) {
            if (number()) {
                int n = num(9999);
                return v -> n;
            }
            if (word()) {
                String name = tok();
                if (!values.contains(name)) {
                    throw bad(3);
                }
                at++;
                return v -> v.get(name);
            }
            if (!tok().equals("(")) {
                throw bad(1);
            }
            at++;
            Expr e = or(within + 1);
            if (!tok().equals(")")) {
                throw bad(1);
            }
            at++;
            return e;
        }
    }

    // ---- the object ----

    private byte[] tape = new byte[0];
    private int faultPlace = NONE;
    private final int[] status = new int[3];
    private Text text = new Text();
    private World now = new World();
    private List<World> acts = new ArrayList<>();
    private List<int[]> heard = new ArrayList<>();
    private World imageNow;
    private List<World> imageActs;
    private List<int[]> imageHeard;

    int feed(int a, int b, int c, int d, int e) {
        if (tape.length + 20 > 700) {
            return NONE;
        }
        java.nio.ByteBuffer more = java.nio.ByteBuffer.allocate(tape.length + 20);
        more.put(tape).putInt(a).putInt(b).putInt(c).putInt(d).putInt(e);
        tape = more.array();
        return tape.length;
    }

    int marsh(int n) {
        if (n < 0 || n > tape.length) {
            throw new IllegalArgumentException();
        }
        byte[] bytes = tape;
        tape = new byte[0];
        Text t;
        try {
            t = new Grammar(bytes, n).read();
        } catch (Fault f) {
            faultPlace = f.place;
            status[0]++;
            return f.kind;
        }
        faultPlace = NONE;
        text = t;
        now = new World();
        for (int p = 0; p < t.people.size(); p++) {
            now.have.add(new ArrayList<>());
            now.teacher.add(new ArrayList<>());
            for (int s = 0; s < t.songs.size(); s++) {
                now.have.get(p).add(null);
                now.teacher.get(p).add(NONE);
            }
            now.seeks.add(t.seeks.get(p));
        }
        for (int[] h : t.has) {
            int[] first = t.songs.get(h[1]);
            Integer[] notes = new Integer[first.length];
            for (int i = 0; i < first.length; i++) {
                notes[i] = (h[2] & 1 << i) != 0 ? null : (Integer) first[i];
            }
            now.have.get(h[0]).set(h[1], gapsOnly(notes) ? null : notes);
        }
        acts = new ArrayList<>();
        heard = new ArrayList<>();
        imageNow = null;
        return 0;
    }

    private static boolean gapsOnly(Integer[] notes) {
        for (Integer n : notes) {
            if (n != null) {
                return false;
            }
        }
        return true;
    }

    int fault() {
        return faultPlace;
    }

    private int songs() {
        return text.songs.size();
    }

    private int people() {
        return text.people.size();
    }

    private static boolean has(World w, int p, int s) {
        return w.have.get(p).get(s) != null;
    }

    private static int gaps(World w, int p, int s) {
        int k = 0;
        if (has(w, p, s)) {
            for (Integer n : w.have.get(p).get(s)) {
                k += n == null ? 1 : 0;
            }
        }
        return k;
    }

    private int like(Integer[] notes, int s) {
        int k = 0;
        for (int i = 0; notes != null && i < notes.length; i++) {
            k += notes[i] != null && notes[i] == text.songs.get(s)[i] ? 1 : 0;
        }
        return k;
    }

    private int who(World w, int s, boolean gapless, boolean gappy) {
        int bits = 0;
        for (int p = 0; p < people(); p++) {
            if (has(w, p, s) && (gaps(w, p, s) == 0 ? gapless : gappy)) {
                bits |= 1 << p;
            }
        }
        return bits;
    }

    private int unsung(World w) {
        int bits = 0;
        for (int s = 0; s < songs(); s++) {
            bits |= who(w, s, true, true) == 0 ? 1 << s : 0;
        }
        return bits;
    }

    private int allGaps(World w) {
        int k = 0;
        for (int p = 0; p < people(); p++) {
            for (int s = 0; s < songs(); s++) {
                k += gaps(w, p, s);
            }
        }
        return k;
    }

    int count(int what) {
        int seekers = 0;
        for (int p = 0; p < people(); p++) {
            seekers |= now.seeks.get(p) != null ? 1 << p : 0;
        }
        int[] all = {songs(), people(), now.day, unsung(now), allGaps(now), seekers, acts.size(), heard.size(),
            tape.length, status[0], status[1], status[2]};
        what(what, 12);
        return all[what];
    }

    // ---- checks ----

    private static void what(int what, int many) {
        if (what < 0 || what >= many) {
            throw new NoSuchElementException();
        }
    }

    private void p(int person) {
        what(person, people());
    }

    private void s(int song) {
        what(song, songs());
    }

    private void place(int song, int place) {
        s(song);
        what(place, text.songs.get(song).length);
    }

    private static void upTo100(int days) {
        if (days < 0 || days > 100) {
            throw new IllegalArgumentException();
        }
    }

    // ---- now ----

    int song(int song, int what) {
        s(song);
        what(what, 5);
        int best = NONE;
        int much = NONE;
        for (int a = 0; a < people(); a++) {
            if (has(now, a, song)) {
                int sum = 0;
                for (int b = 0; b < people(); b++) {
                    if (b != a && has(now, b, song)) {
                        sum += both(a, b, song, 0);
                    }
                }
                if (best == NONE || sum < much) {
                    best = a;
                    much = sum;
                }
            }
        }
        int[] all = {text.songs.get(song).length, who(now, song, true, true), who(now, song, true, false), best, much};
        return all[what];
    }

    int person(int person, int what) {
        p(person);
        what(what, 5);
        int[] seeks = now.seeks.get(person);
        int bits = 0;
        for (int s = 0; s < songs(); s++) {
            bits |= has(now, person, s) ? 1 << s : 0;
        }
        int[] all = {text.people.get(person)[0], text.people.get(person)[1], bits, seeks == null ? NONE : seeks[0],
            seeks == null ? NONE : seeks[1]};
        return all[what];
    }

    int first(int song, int place) {
        place(song, place);
        return text.songs.get(song)[place];
    }

    /** Teacher, teacher's teacher ..., until nobody, or the first one that is met twice (it stands twice then). */
    private List<Integer> chain(int person, int song) {
        List<Integer> list = new ArrayList<>();
        int t = now.teacher.get(person).get(song);
        while (t != NONE) {
            boolean again = list.contains(t);
            list.add(t);
            if (again) {
                break;
            }
            t = now.teacher.get(t).get(song);
        }
        return list;
    }

    private static boolean round(List<Integer> chain) {
        return new HashSet<>(chain).size() < chain.size();
    }

    int has(int person, int song, int what) {
        p(person);
        s(song);
        what(what, 7);
        Integer[] notes = now.have.get(person).get(song);
        List<Integer> chain = chain(person, song);
        switch (what) {
            case 0:
                return notes == null ? 0 : 1;
            case 1:
                int bits = 0;
                for (int i = 0; notes != null && i < notes.length; i++) {
                    bits += notes[i] == null ? 1 << i : 0;
                }
                return bits;
            case 2:
                return like(notes, song);
            case 3:
                return now.teacher.get(person).get(song);
            case 4:
                return pupils(now, person, song);
            case 5:
                return round(chain) ? people() : chain.size();
            default:
                int by = 0;
                for (int t : chain) {
                    by |= 1 << t;
                }
                return by;
        }
    }

    private int pupils(World w, int person, int song) {
        int bits = 0;
        for (int p = 0; p < people(); p++) {
            bits |= w.teacher.get(p).get(song) == person ? 1 << p : 0;
        }
        return bits;
    }

    // ---- days ----

    private int otherOne = NONE;
    private int otherMemory;
    private int taught;
    private int forgotten;

    private void day(World w, boolean winter) {
        for (int p = 0; p < people() && !winter; p++) {
            for (int s = 0; s < songs(); s++) {
                Integer[] notes = w.have.get(p).get(s);
                if (notes == null) {
                    continue;
                }
                for (int i = 0; i < notes.length; i++) {
                    if (notes[i] != null && forgets(w, p, s, i)) {
                        notes[i] = null;
                        forgotten++;
                        break;
                    }
                }
                if (gapsOnly(notes)) {
                    w.have.get(p).set(s, null);
                }
            }
        }
        for (int p = 0; p < people(); p++) {
            int[] seeks = w.seeks.get(p);
            if (seeks != null && !has(w, p, seeks[0]) && gaps(w, seeks[1], seeks[0]) > 0) {
                w.have.get(p).set(seeks[0], learning(w, p, seeks[0], seeks[1]));
                w.teacher.get(p).set(seeks[0], seeks[1]);
                w.seeks.set(p, null);
                taught++;
            }
        }
        w.day++;
    }

    private boolean forgets(World w, int p, int s, int i) {
        int memory = p == otherOne ? otherMemory : text.people.get(p)[0];
        if (text.forgets == null) {
            return w.day % (memory + 1) == 0;
        }
        TreeMap<String, Integer> v = new TreeMap<>();
        v.put("memory", memory);
        v.put("wit", text.people.get(p)[1]);
        v.put("note", w.have.get(p).get(s)[i]);
        v.put("place", i);
        v.put("gaps", gaps(w, p, s));
        v.put("with", Integer.bitCount(who(w, s, true, true)) - 1);
        v.put("day", w.day);
        return text.forgets.applyAsInt(v) > 0;
    }

    private Integer[] learning(World w, int p, int s, int other) {
        Integer[] theirs = w.have.get(other).get(s);
        Integer[] mine = theirs.clone();
        for (int i = 0; i < mine.length; i++) {
            if (mine[i] == null) {
                int before = i == 0 ? 0 : mine[i - 1];
                int after = i + 1 == mine.length || theirs[i + 1] == null ? 0 : theirs[i + 1];
                int note = before;
                if (text.fills != null) {
                    TreeMap<String, Integer> v = new TreeMap<>();
                    v.put("wit", text.people.get(p)[1]);
                    v.put("place", i);
                    v.put("before", before);
                    v.put("after", after);
                    v.put("day", w.day);
                    note = text.fills.applyAsInt(v);
                }
                mine[i] = note < 0 ? 0 : note > 9 ? 9 : note;
            }
        }
        return mine;
    }

    private World after(int days) {
        World w = now.copy();
        taught = 0;
        forgotten = 0;
        for (int i = 0; i < days; i++) {
            day(w, false);
        }
        return w;
    }

    // ---- acts ----

    private int refuse() {
        status[1]++;
        return NONE;
    }

    private void act() {
        acts.add(now.copy());
        if (acts.size() > 40) {
            acts.remove(0);
        }
    }

    int days(int many) {
        if (many < 1 || many > 20 || now.day + many > 9999) {
            return refuse();
        }
        act();
        now = after(many);
        return now.day;
    }

    int learn(int person, int song, int other) {
        p(person);
        p(other);
        s(song);
        if (has(now, person, song) || gaps(now, other, song) == 0) {
            return refuse();
        }
        act();
        now.have.get(person).set(song, learning(now, person, song, other));
        now.teacher.get(person).set(song, other);
        return like(now.have.get(person).get(song), song);
    }

    boolean seek(int person, int song, int other) {
        p(person);
        int[] wish = null;
        if (other != NONE) {
            p(other);
            s(song);
            wish = new int[] {song, other};
        }
        if (person == other || Arrays.equals(wish, now.seeks.get(person))) {
            refuse();
            return false;
        }
        act();
        now.seeks.set(person, wish);
        return true;
    }

    int giveUp(int person, int song) {
        p(person);
        s(song);
        if (!has(now, person, song)) {
            return refuse();
        }
        act();
        int gaps = gaps(now, person, song);
        now.have.get(person).set(song, null);
        return gaps;
    }

    boolean hum(int person, int song, int place, int note) {
        p(person);
        place(song, place);
        if (!has(now, person, song) || now.have.get(person).get(song)[place] != null || note < 0 || note > 9) {
            refuse();
            return false;
        }
        act();
        now.have.get(person).get(song)[place] = note;
        return true;
    }

    int undo() {
        if (acts.isEmpty()) {
            return NONE;
        }
        now = acts.remove(acts.size() - 1);
        return acts.size();
    }

    // ---- then ----

    int then(int person, int song, int days, int what) {
        p(person);
        s(song);
        what(what, 3);
        upTo100(days);
        World w = after(days);
        int[] all = {has(w, person, song) ? 1 : 0, gaps(w, person, song), like(w.have.get(person).get(song), song)};
        return all[what];
    }

    private static int at(World w, int person, int song, int place) {
        Integer[] notes = w.have.get(person).get(song);
        return notes == null || notes[place] == null ? NONE : notes[place];
    }

    int note(int person, int song, int place, int days) {
        p(person);
        place(song, place);
        upTo100(days);
        return at(after(days), person, song, place);
    }

    int sung(int song, int days, int what) {
        s(song);
        what(what, 2);
        upTo100(days);
        return who(after(days), song, true, what == 1);
    }

    int lost(int song) {
        s(song);
        World w = now.copy();
        for (int d = 0; d <= 100; d++, day(w, false)) {
            if (who(w, song, true, true) == 0) {
                return d;
            }
        }
        return NONE;
    }

    int learnt(int person, int song) {
        p(person);
        s(song);
        World w = now.copy();
        for (int d = 0; d <= 100; d++, day(w, false)) {
            if (has(w, person, song)) {
                return d;
            }
        }
        return NONE;
    }

    int most(int days) {
        upTo100(days);
        World w = after(days);
        int best = NONE;
        int much = -1;
        for (int p = 0; p < people(); p++) {
            int k = 0;
            for (int s = 0; s < songs(); s++) {
                k += has(w, p, s) ? 1 : 0;
            }
            if (k > much) {
                much = k;
                best = p;
            }
        }
        return best;
    }

    int both(int person, int other, int song, int what) {
        p(person);
        p(other);
        s(song);
        what(what, 2);
        if (!has(now, person, song) || !has(now, other, song)) {
            return NONE;
        }
        Integer[] a = now.have.get(person).get(song);
        Integer[] b = now.have.get(other).get(song);
        if (what == 0) {
            int k = 0;
            for (int i = 0; i < a.length; i++) {
                k += a[i] != null && b[i] != null && !a[i].equals(b[i]) ? 1 : 0;
            }
            return k;
        }
        // every choice of a's notes, looked for in b
        int best = 0;
        for (int pick = 0; pick < 1 << a.length; pick++) {
            int j = 0;
            int k = 0;
            boolean all = true;
            for (int i = 0; i < a.length && all; i++) {
                if ((pick & 1 << i) != 0) {
                    while (a[i] != null && j < b.length && !a[i].equals(b[j])) {
                        j++;
                    }
                    all = a[i] != null && j < b.length;
                    j++;
                    k++;
                }
            }
            best = all ? Math.max(best, k) : best;
        }
        return best;
    }

    int toLearn(int person, int song, int what) {
        p(person);
        s(song);
        what(what, 2);
        int best = NONE;
        int much = NONE;
        for (int o = 0; o < people() && !has(now, person, song); o++) {
            if (gaps(now, o, song) > 0) {
                int like = like(learning(now, person, song, o), song);
                if (like > much) {
                    much = like;
                    best = o;
                }
            }
        }
        return what == 0 ? best : much;
    }

    /** All rows of teachers (7 for nobody) counted up like a number in base 8: the first best one. */
    private int[] bestRow(int song) {
        List<Integer> pupils = new ArrayList<>();
        for (int p = 0; p < people(); p++) {
            if (!has(now, p, song)) {
                pupils.add(p);
            }
        }
        int[][] like = new int[7][7];
        for (int p : pupils) {
            for (int o = 0; o < people(); o++) {
                like[p][o] = gaps(now, o, song) > 0 ? like(learning(now, p, song, o), song) : -1;
            }
        }
        int[] best = {-1, 0, 0};
        for (int row = 0; row < 1 << 3 * pupils.size(); row++) {
            int used = 0;
            int sum = 0;
            boolean can = true;
            for (int k = 0; k < pupils.size() && can; k++) {
                int o = row >> 3 * (pupils.size() - 1 - k) & 7;
                if (o < 7) {
                    can = o < people() && (used & 1 << o) == 0 && like[pupils.get(k)][o] >= 0;
                    used |= 1 << o;
                    sum += can ? like[pupils.get(k)][o] : 0;
                }
            }
            int many = Integer.bitCount(used);
            if (can && (many > best[0] || many == best[0] && sum > best[1])) {
                best = new int[] {many, sum, row};
            }
        }
        return best;
    }

    int lessons(int song, int what) {
        s(song);
        what(what, 2);
        return bestRow(song)[what];
    }

    int lesson(int person, int song) {
        p(person);
        s(song);
        if (has(now, person, song)) {
            return NONE;
        }
        int row = bestRow(song)[2];
        for (int p = people() - 1; p > person; p--) {
            row = has(now, p, song) ? row : row >> 3;
        }
        return (row & 7) == 7 ? NONE : row & 7;
    }

    // ---- heard ----

    int hear(int person, int song, int place, int days, int note) {
        p(person);
        place(song, place);
        if (heard.size() == 8 || days < 0 || days > 20 || note < NONE || note > 9) {
            status[2]++;
            return NONE;
        }
        heard.add(new int[] {person, song, place, days, note});
        return heard.size();
    }

    void forget() {
        heard = new ArrayList<>();
    }

    private boolean allHeard() {
        for (int[] h : heard) {
            if (at(after(h[3]), h[0], h[1], h[2]) != h[4]) {
                return false;
            }
        }
        return true;
    }

    private List<Integer> others() {
        List<Integer> list = new ArrayList<>();
        for (int p = 0; p < people(); p++) {
            for (int m = 0; m <= 9; m++) {
                if (m != text.people.get(p)[0]) {
                    otherOne = p;
                    otherMemory = m;
                    if (allHeard()) {
                        list.add(10 * p + m);
                    }
                    otherOne = NONE;
                }
            }
        }
        return list;
    }

    int otherwise(int what) {
        what(what, 3);
        if (what == 2) {
            return allHeard() ? 1 : 0;
        }
        List<Integer> list = others();
        return what == 0 ? list.size() : list.isEmpty() ? NONE : list.get(0);
    }

    int ask(int what) {
        what(what, 2);
        List<Set<Integer>> sums = new ArrayList<>();
        for (int p = 0; p < people(); p++) {
            sums.add(new HashSet<>());
        }
        for (int o : others()) {
            otherOne = o / 10;
            otherMemory = o % 10;
            World w = after(10);
            otherOne = NONE;
            for (int p = 0; p < people(); p++) {
                int k = 0;
                for (int s = 0; s < songs(); s++) {
                    k += gaps(w, p, s);
                }
                sums.get(p).add(k);
            }
        }
        int best = NONE;
        int much = 0;
        for (int p = 0; p < people(); p++) {
            if (sums.get(p).size() > much) {
                much = sums.get(p).size();
                best = p;
            }
        }
        return what == 0 ? best : much;
    }

    // ---- chance ----

    int winters(int person, int song, int days, int tenths) {
        p(person);
        s(song);
        if (days < 1 || days > 5 || tenths < 0 || tenths > 10) {
            throw new IllegalArgumentException();
        }
        return winter(now.copy(), person, song, days, tenths);
    }

    private int winter(World w, int person, int song, int days, int tenths) {
        if (days == 0) {
            return has(w, person, song) && gaps(w, person, song) == 0 ? 1 : 0;
        }
        World cold = w.copy();
        World warm = w.copy();
        day(cold, true);
        day(warm, false);
        return tenths * winter(cold, person, song, days - 1, tenths)
            + (10 - tenths) * winter(warm, person, song, days - 1, tenths);
    }

    private int gain(int me, int song, World w) {
        Integer[] notes = w.have.get(me).get(song);
        return 3 * Integer.bitCount(pupils(w, me, song)) + (notes == null ? 0 : notes.length - gaps(w, me, song));
    }

    int game(int person, int other, int song, int what) {
        p(person);
        p(other);
        s(song);
        what(what, 2);
        if (person == other) {
            throw new IllegalArgumentException();
        }
        if (!has(now, person, song) || !has(now, other, song)) {
            return NONE;
        }
        int[][][] gains = new int[2][2][];
        for (int a = 0; a < 2; a++) {
            for (int b = 0; b < 2; b++) {
                World w = now.copy();
                if (a == 1) {
                    w.have.get(person).set(song, null);
                }
                if (b == 1) {
                    w.have.get(other).set(song, null);
                }
                for (int i = 0; i < 20; i++) {
                    day(w, false);
                }
                gains[a][b] = new int[] {gain(person, song, w), gain(other, song, w)};
            }
        }
        List<Integer> rest = new ArrayList<>();
        for (int a = 0; a < 2; a++) {
            for (int b = 0; b < 2; b++) {
                if (gains[1 - a][b][0] <= gains[a][b][0] && gains[a][1 - b][1] <= gains[a][b][1]) {
                    rest.add(10 * a + b);
                }
            }
        }
        return what == 0 ? rest.size() : rest.isEmpty() ? NONE : rest.get(0);
    }

    private long seed;

    private int draw(int n) {
        seed = (seed * 1103515245L + 12345L) & 0xFFFFFFFFL;
        return (int) ((seed >> 16) % 32768L % n);
    }

    int years(int newSeed, int n, int what) {
        what(what, 3);
        upTo100(n);
        seed = newSeed & 0xFFFFFFFFL;
        World w = after(0);
        for (int i = 0; i < n; i++) {
            int kind = draw(5);
            if (kind < 2 && people() > 0 && songs() > 0) {
                int p = draw(people());
                int s = draw(songs());
                if (kind == 1) {
                    w.have.get(p).set(s, null);
                } else {
                    int o = draw(people());
                    w.seeks.set(p, o == p ? null : new int[] {s, o});
                }
            }
            day(w, false);
        }
        return what == 0 ? taught : what == 1 ? allGaps(w) : Integer.bitCount(unsung(w));
    }

    // ---- the rest ----

    int of(int person, int song, int what) {
        p(person);
        s(song);
        what(what, 3);
        if (what == 0) {
            List<Integer> chain = chain(person, song);
            return chain.isEmpty() || round(chain) ? NONE : chain.get(chain.size() - 1);
        }
        if (!has(now, person, song)) {
            return NONE;
        }
        List<Integer> notes = new ArrayList<>(Arrays.asList(now.have.get(person).get(song)));
        notes.removeIf(n -> n == null);
        int k = 0;
        int max = NONE;
        for (int i = 0; i < notes.size(); i++) {
            k += i > 0 && !notes.get(i).equals(notes.get(i - 1)) ? 1 : 0;
            max = Math.max(max, notes.get(i));
        }
        return what == 1 ? k : max;
    }

    int kept(int song, int days, int what) {
        s(song);
        what(what, 2);
        upTo100(days);
        World w = after(days);
        if (what == 1) {
            return who(w, song, false, true);
        }
        if (who(w, song, true, true) == 0) {
            return NONE;
        }
        int bits = 0;
        for (int i = 0; i < text.songs.get(song).length; i++) {
            bits |= 1 << i;
            for (int p = 0; p < people(); p++) {
                if (has(w, p, song) && at(w, p, song, i) != text.songs.get(song)[i]) {
                    bits &= ~(1 << i);
                }
            }
        }
        return bits;
    }

    int later(int days, int what) {
        what(what, 3);
        upTo100(days);
        World w = after(days);
        int best = NONE;
        int few = 99;
        for (int s = 0; s < songs(); s++) {
            int k = Integer.bitCount(who(w, s, true, true));
            if (k > 0 && k < few) {
                few = k;
                best = s;
            }
        }
        int[] all = {best, taught, forgotten};
        return all[what];
    }

    int agreed(int song, int place) {
        place(song, place);
        int[] votes = new int[10];
        for (int p = 0; p < people(); p++) {
            int n = at(now, p, song, place);
            if (n != NONE) {
                votes[n]++;
            }
        }
        int max = Arrays.stream(votes).max().getAsInt();
        for (int n = 0; n < 10; n++) {
            if (max > 0 && votes[n] == max) {
                return n;
            }
        }
        return NONE;
    }

    private static List<World> copies(List<World> worlds) {
        List<World> list = new ArrayList<>();
        for (World w : worlds) {
            list.add(w.copy());
        }
        return list;
    }

    void image() {
        imageNow = now.copy();
        imageActs = copies(acts);
        imageHeard = new ArrayList<>(heard);
    }

    boolean restore() {
        if (imageNow == null) {
            return false;
        }
        now = imageNow.copy();
        acts = copies(imageActs);
        heard = new ArrayList<>(imageHeard);
        return true;
    }
}
