import java.util.Arrays;
import java.util.NoSuchElementException;

/** Songs that are forgotten note by note and learnt of those who have gaps in them. */
public final class GapSongs {
    /** There is none; nobody; a GAP. */
    public static final int NONE = -1;

    private static final int MOST_SONGS = 5;
    private static final int MOST_PEOPLE = 7;
    private static final int MOST_NOTES = 8;
    private static final int HIGHEST_DIGIT = 9;
    private static final int MOST_BYTES = 700;
    private static final int BYTES_FED = 20;
    private static final int LAST_DAY = 9999;
    private static final int LONGEST_ACT = 20;
    private static final int FAREST_DAYS = 100;
    private static final int MOST_WINTERS = 5;
    private static final int GAME_DAYS = 20;
    private static final int ASK_DAYS = 10;
    private static final int GAIN_OF_PUPIL = 3;

    private static final int STATUS_TEXTS = 0;
    private static final int STATUS_ACTS = 1;
    private static final int STATUS_HEARD = 2;

    private final byte[] tape = new byte[MOST_BYTES];
    private int taped = 0;
    private int faultPlace = NONE;
    private final int[] refused = new int[3];

    private final Told told = new Told();
    private final State now = new State();
    private final Acts acts = new Acts();
    private final Heard heard = new Heard();

    private boolean imaged = false;
    private final State imageNow = new State();
    private final Acts imageActs = new Acts();
    private final Heard imageHeard = new Heard();

    private final Reader reader = new Reader(tape);
    private final View view = new View(told);
    private final Course course = new Course(told);
    private final Lessons plan = new Lessons(told);
    private final State trial = new State();
    private final int[] gains = new int[8];
    private final long[] gapSums = new long[MOST_PEOPLE];

    /** No SONGS, nobody. */
    public GapSongs() {
    }

    // ---- the tape and the text ----

    public int feed(int a, int b, int c, int d, int e) {
        if (taped + BYTES_FED > MOST_BYTES) {
            return NONE;
        }
        putBytes(a);
        putBytes(b);
        putBytes(c);
        putBytes(d);
        putBytes(e);
        return taped;
    }

    private void putBytes(int four) {
        for (int shift = 24; shift >= 0; shift -= 8) {
            if (taped < tape.length) {
                tape[taped] = (byte) (four >>> shift);
                taped++;
            }
        }
    }

    public int marsh(int n) throws IllegalArgumentException {
        if (n < 0 || n > taped) {
            throw new IllegalArgumentException("the tape has not so many bytes");
        }
        taped = 0;
        int found = reader.readText(n);
        faultPlace = reader.faultPlace();
        if (found != 0) {
            refused[STATUS_TEXTS]++;
            return found;
        }
        told.copyFrom(reader.told);
        now.copyFrom(reader.start);
        acts.clear();
        heard.clear();
        imaged = false;
        return 0;
    }

    public int fault() {
        return faultPlace;
    }

    // ---- what is so now ----

    public int count(int what) throws NoSuchElementException {
        switch (what) {
            case 0: return told.songs;
            case 1: return told.people;
            case 2: return now.day();
            case 3: return view.unsungSongs(now);
            case 4: return view.gapsOfAll(now);
            case 5: return view.seekers(now);
            case 6: return acts.size();
            case 7: return heard.size();
            case 8: return taped;
            case 9: return refused[STATUS_TEXTS];
            case 10: return refused[STATUS_ACTS];
            case 11: return refused[STATUS_HEARD];
            default: throw new NoSuchElementException("no such count");
        }
    }

    public int song(int song, int what) throws NoSuchElementException {
        needSong(song);
        switch (what) {
            case 0: return told.lengths[song];
            case 1: return view.singers(now, song);
            case 2: return view.wholeSingers(now, song);
            case 3: return view.nearest(now, song);
            case 4: return view.unlikeAll(now, view.nearest(now, song), song);
            default: throw new NoSuchElementException("no such what of a song");
        }
    }

    public int person(int person, int what) throws NoSuchElementException {
        needPerson(person);
        switch (what) {
            case 0: return told.memories[person];
            case 1: return told.wits[person];
            case 2: return view.songsOf(now, person);
            case 3: return now.soughtSong(person);
            case 4: return now.soughtOf(person);
            default: throw new NoSuchElementException("no such what of a person");
        }
    }

    public int first(int song, int place) throws NoSuchElementException {
        needPlace(song, place);
        return noteAt(told.firsts[song], place);
    }

    public int has(int person, int song, int what) throws NoSuchElementException {
        needPerson(person);
        needSong(song);
        int notes = now.notes(person, song);
        switch (what) {
            case 0: return now.holds(person, song) ? 1 : 0;
            case 1: return view.gapBits(song, notes);
            case 2: return view.likeFirst(song, notes);
            case 3: return now.teacher(person, song);
            case 4: return view.pupils(now, person, song);
            case 5: return view.generation(now, person, song);
            case 6: return view.taughtBy(now, person, song);
            default: throw new NoSuchElementException("no such what of a person's song");
        }
    }

    // ---- acts ----

    public int days(int many) {
        if (many < 1 || many > LONGEST_ACT || now.day() + many > LAST_DAY) {
            return refuseAct();
        }
        acts.push(now);
        for (int i = 0; i < many; i++) {
            course.passDay(now, false);
        }
        return now.day();
    }

    public int learn(int person, int song, int other) throws NoSuchElementException {
        needPerson(person);
        needSong(song);
        needPerson(other);
        if (!view.canLearn(now, person, song, other)) {
            return refuseAct();
        }
        acts.push(now);
        int notes = course.learntNotes(now, person, song, other);
        now.setLearnt(person, song, notes, other);
        return view.likeFirst(song, notes);
    }

    public boolean seek(int person, int song, int other) throws NoSuchElementException {
        needPerson(person);
        if (other != NONE) {
            needPerson(other);
            needSong(song);
        }
        if (person == other || seeksAlready(person, song, other)) {
            refuseAct();
            return false;
        }
        acts.push(now);
        if (other == NONE) {
            now.seekNothing(person);
        } else {
            now.setSought(person, song, other);
        }
        return true;
    }

    private boolean seeksAlready(int person, int song, int other) {
        if (other == NONE) {
            return !now.seeks(person);
        }
        return now.soughtSong(person) == song && now.soughtOf(person) == other;
    }

    public int giveUp(int person, int song) throws NoSuchElementException {
        needPerson(person);
        needSong(song);
        if (!now.holds(person, song)) {
            return refuseAct();
        }
        acts.push(now);
        int gaps = view.gapCount(song, now.notes(person, song));
        now.drop(person, song);
        return gaps;
    }

    public boolean hum(int person, int song, int place, int note) throws NoSuchElementException {
        needPerson(person);
        needPlace(song, place);
        int notes = now.notes(person, song);
        boolean fits = note >= 0 && note <= HIGHEST_DIGIT;
        if (!fits || !now.holds(person, song) || noteAt(notes, place) != NONE) {
            refuseAct();
            return false;
        }
        acts.push(now);
        now.setNotes(person, song, withNote(notes, place, note));
        return true;
    }

    public int undo() {
        if (acts.size() == 0) {
            return NONE;
        }
        acts.pop(now);
        return acts.size();
    }

    private int refuseAct() {
        refused[STATUS_ACTS]++;
        return NONE;
    }

    // ---- what will be so if only days go by ----

    public int then(int person, int song, int days, int what)
            throws NoSuchElementException, IllegalArgumentException {
        needPerson(person);
        needSong(song);
        needWhat(what, 3);
        needDays(days);
        foresee(days);
        int notes = trial.notes(person, song);
        if (what == 0) {
            return trial.holds(person, song) ? 1 : 0;
        }
        return what == 1 ? view.gapCount(song, notes) : view.likeFirst(song, notes);
    }

    public int note(int person, int song, int place, int days)
            throws NoSuchElementException, IllegalArgumentException {
        needPerson(person);
        needPlace(song, place);
        needDays(days);
        foresee(days);
        return noteAt(trial.notes(person, song), place);
    }

    public int sung(int song, int days, int what) throws NoSuchElementException, IllegalArgumentException {
        needSong(song);
        needWhat(what, 2);
        needDays(days);
        foresee(days);
        return what == 0 ? view.wholeSingers(trial, song) : view.singers(trial, song);
    }

    public int lost(int song) throws NoSuchElementException {
        needSong(song);
        trial.copyFrom(now);
        for (int days = 0; days <= FAREST_DAYS; days++) {
            if (view.singers(trial, song) == 0) {
                return days;
            }
            course.passDay(trial, false);
        }
        return NONE;
    }

    public int learnt(int person, int song) throws NoSuchElementException {
        needPerson(person);
        needSong(song);
        trial.copyFrom(now);
        for (int days = 0; days <= FAREST_DAYS; days++) {
            if (trial.holds(person, song)) {
                return days;
            }
            course.passDay(trial, false);
        }
        return NONE;
    }

    public int most(int days) throws IllegalArgumentException {
        needDays(days);
        foresee(days);
        int who = NONE;
        int best = NONE;
        for (int person = 0; person < told.people; person++) {
            int many = Integer.bitCount(view.songsOf(trial, person));
            if (many > best) {
                best = many;
                who = person;
            }
        }
        return who;
    }

    public int kept(int song, int days, int what) throws NoSuchElementException, IllegalArgumentException {
        needSong(song);
        needWhat(what, 2);
        needDays(days);
        foresee(days);
        return what == 0 ? view.keptPlaces(trial, song) : view.readyTeachers(trial, song);
    }

    public int later(int days, int what) throws NoSuchElementException, IllegalArgumentException {
        needWhat(what, 3);
        needDays(days);
        foresee(days);
        if (what == 0) {
            return view.rarestSong(trial);
        }
        return what == 1 ? course.taught : course.forgotten;
    }

    /** Leaves in trial how it is so many DAYS from now, and in course what was taught and forgotten. */
    private void foresee(int days) {
        trial.copyFrom(now);
        course.countAnew();
        for (int i = 0; i < days; i++) {
            course.passDay(trial, false);
        }
    }

    // ---- songs side by side ----

    public int both(int person, int other, int song, int what) throws NoSuchElementException {
        needPerson(person);
        needPerson(other);
        needSong(song);
        needWhat(what, 2);
        if (!now.holds(person, song) || !now.holds(other, song)) {
            return NONE;
        }
        int mine = now.notes(person, song);
        int theirs = now.notes(other, song);
        return what == 0 ? view.unlike(song, mine, theirs) : view.common(song, mine, theirs);
    }

    public int of(int person, int song, int what) throws NoSuchElementException {
        needPerson(person);
        needSong(song);
        needWhat(what, 3);
        if (what == 0) {
            return view.origin(now, person, song);
        }
        if (!now.holds(person, song)) {
            return NONE;
        }
        int notes = now.notes(person, song);
        return what == 1 ? view.changes(song, notes) : view.highest(song, notes);
    }

    public int agreed(int song, int place) throws NoSuchElementException {
        needPlace(song, place);
        return view.agreedNote(now, song, place);
    }

    // ---- lessons ----

    public int toLearn(int person, int song, int what) throws NoSuchElementException {
        needPerson(person);
        needSong(song);
        needWhat(what, 2);
        int whom = NONE;
        int best = NONE;
        for (int other = 0; other < told.people; other++) {
            if (view.canLearn(now, person, song, other)) {
                int like = likeIfLearnt(person, song, other);
                if (like > best) {
                    best = like;
                    whom = other;
                }
            }
        }
        return what == 0 ? whom : best;
    }

    private int likeIfLearnt(int person, int song, int other) {
        return view.likeFirst(song, course.learntNotes(now, person, song, other));
    }

    public int lessons(int song, int what) throws NoSuchElementException {
        needSong(song);
        needWhat(what, 2);
        planLessons(song);
        return what == 0 ? plan.bestMany() : plan.bestLike();
    }

    public int lesson(int person, int song) throws NoSuchElementException {
        needPerson(person);
        needSong(song);
        planLessons(song);
        return plan.bestTeacher(person);
    }

    private void planLessons(int song) {
        plan.clear();
        for (int person = 0; person < told.people; person++) {
            for (int other = 0; other < told.people; other++) {
                if (view.canLearn(now, person, song, other)) {
                    plan.offer(person, other, likeIfLearnt(person, song, other));
                }
            }
        }
        plan.solve();
    }

    // ---- what is heard ----

    public int hear(int person, int song, int place, int days, int note) throws NoSuchElementException {
        needPerson(person);
        needPlace(song, place);
        boolean fits = days >= 0 && days <= Heard.MOST_DAYS && note >= NONE && note <= HIGHEST_DIGIT;
        if (!fits || !heard.put(person, song, place, days, note)) {
            refused[STATUS_HEARD]++;
            return NONE;
        }
        return heard.size();
    }

    public void forget() {
        heard.clear();
    }

    public int otherwise(int what) throws NoSuchElementException {
        needWhat(what, 3);
        if (what == 2) {
            return explains(NONE, 0) ? 1 : 0;
        }
        int many = 0;
        int earliest = NONE;
        for (int person = 0; person < told.people; person++) {
            for (int memory = 0; memory <= HIGHEST_DIGIT; memory++) {
                if (told.memories[person] != memory && explains(person, memory)) {
                    many++;
                    earliest = earliest == NONE ? 10 * person + memory : earliest;
                }
            }
        }
        return what == 0 ? many : earliest;
    }

    public int ask(int what) throws NoSuchElementException {
        needWhat(what, 2);
        Arrays.fill(gapSums, 0L);
        for (int person = 0; person < told.people; person++) {
            for (int memory = 0; memory <= HIGHEST_DIGIT; memory++) {
                if (told.memories[person] != memory && explains(person, memory)) {
                    noteGapSums(person, memory);
                }
            }
        }
        int who = NONE;
        int best = 0;
        for (int person = 0; person < told.people; person++) {
            int many = Long.bitCount(gapSums[person]);
            if (many > best) {
                best = many;
                who = person;
            }
        }
        return what == 0 ? who : best;
    }

    /** Whether all that is HEARD would be so, had this PERSON this MEMORY; NONE: by all as they are. */
    private boolean explains(int person, int memory) {
        trial.copyFrom(now);
        course.pretend(person, memory);
        int last = heard.lastDays();
        boolean so = heard.agrees(trial, 0);
        for (int days = 1; so && days <= last; days++) {
            course.passDay(trial, false);
            so = heard.agrees(trial, days);
        }
        course.pretend(NONE, 0);
        return so;
    }

    /** A sum of GAPS is a bit here: the bits are the unlike sums that were met. */
    private void noteGapSums(int person, int memory) {
        trial.copyFrom(now);
        course.pretend(person, memory);
        for (int i = 0; i < ASK_DAYS; i++) {
            course.passDay(trial, false);
        }
        course.pretend(NONE, 0);
        for (int one = 0; one < told.people; one++) {
            gapSums[one] |= 1L << view.gapsOfPerson(trial, one);
        }
    }

    // ---- chance and choice ----

    public int winters(int person, int song, int days, int tenths)
            throws NoSuchElementException, IllegalArgumentException {
        needPerson(person);
        needSong(song);
        if (days < 1 || days > MOST_WINTERS || tenths < 0 || tenths > 10) {
            throw new IllegalArgumentException("no such days or tenths");
        }
        int sum = 0;
        for (int way = 0; way < (1 << days); way++) {
            int weight = weightOfWinters(way, days, tenths);
            if (weight > 0 && wholeBehind(person, song, way, days)) {
                sum += weight;
            }
        }
        return sum;
    }

    private static int weightOfWinters(int way, int days, int tenths) {
        int weight = 1;
        for (int day = 0; day < days; day++) {
            weight *= isWinter(way, day) ? tenths : 10 - tenths;
        }
        return weight;
    }

    private static boolean isWinter(int way, int day) {
        return (way >> day & 1) == 1;
    }

    private boolean wholeBehind(int person, int song, int way, int days) {
        trial.copyFrom(now);
        for (int day = 0; day < days; day++) {
            course.passDay(trial, isWinter(way, day));
        }
        return trial.holds(person, song) && view.gapBits(song, trial.notes(person, song)) == 0;
    }

    public int game(int person, int other, int song, int what)
            throws NoSuchElementException, IllegalArgumentException {
        needPerson(person);
        needPerson(other);
        needSong(song);
        needWhat(what, 2);
        if (person == other) {
            throw new IllegalArgumentException("both are one");
        }
        if (!now.holds(person, song) || !now.holds(other, song)) {
            return NONE;
        }
        for (int couple = 0; couple < 4; couple++) {
            playCouple(person, other, song, couple);
        }
        return restingCouples(what);
    }

    /** A couple is 2 by the first one's choice, and the other one's: its gains stand at 2 by it, and behind. */
    private void playCouple(int person, int other, int song, int couple) {
        trial.copyFrom(now);
        if (couple >= 2) {
            trial.drop(person, song);
        }
        if (couple % 2 == 1) {
            trial.drop(other, song);
        }
        for (int i = 0; i < GAME_DAYS; i++) {
            course.passDay(trial, false);
        }
        gains[2 * couple] = gainOf(person, song);
        gains[2 * couple + 1] = gainOf(other, song);
    }

    private int gainOf(int person, int song) {
        int pupils = Integer.bitCount(view.pupils(trial, person, song));
        return GAIN_OF_PUPIL * pupils + view.noteCount(song, trial.notes(person, song));
    }

    private int restingCouples(int what) {
        int many = 0;
        int earliest = NONE;
        for (int couple = 0; couple < 4; couple++) {
            boolean mineRests = gains[2 * (couple ^ 2)] <= gains[2 * couple];
            boolean theirsRests = gains[2 * (couple ^ 1) + 1] <= gains[2 * couple + 1];
            if (mineRests && theirsRests) {
                many++;
                earliest = earliest == NONE ? 10 * (couple / 2) + couple % 2 : earliest;
            }
        }
        return what == 0 ? many : earliest;
    }

    public int years(int seed, int n, int what) throws NoSuchElementException, IllegalArgumentException {
        needWhat(what, 3);
        needDays(n);
        trial.copyFrom(now);
        course.countAnew();
        course.sow(seed);
        for (int i = 0; i < n; i++) {
            course.chance(trial);
            course.passDay(trial, false);
        }
        if (what == 0) {
            return course.taught;
        }
        return what == 1 ? view.gapsOfAll(trial) : Integer.bitCount(view.unsungSongs(trial));
    }

    // ---- the image ----

    public void image() {
        imageNow.copyFrom(now);
        imageActs.copyFrom(acts);
        imageHeard.copyFrom(heard);
        imaged = true;
    }

    public boolean restore() {
        if (!imaged) {
            return false;
        }
        now.copyFrom(imageNow);
        acts.copyFrom(imageActs);
        heard.copyFrom(imageHeard);
        return true;
    }

    // ---- what a call needs ----

    private void needPerson(int person) {
        if (person < 0 || person >= told.people) {
            throw new NoSuchElementException("no such person");
        }
    }

    private void needSong(int song) {
        if (song < 0 || song >= told.songs) {
            throw new NoSuchElementException("no such song");
        }
    }

    private void needPlace(int song, int place) {
        needSong(song);
        if (place < 0 || place >= told.lengths[song]) {
            throw new NoSuchElementException("no such place");
        }
    }

    private static void needWhat(int what, int many) {
        if (what < 0 || what >= many) {
            throw new NoSuchElementException("no such what");
        }
    }

    private static void needDays(int days) {
        if (days < 0 || days > FAREST_DAYS) {
            throw new IllegalArgumentException("not so many days");
        }
    }

    // ---- notes in one int: four bits a place, all set for a GAP and behind the end ----

    private static int noteAt(int notes, int place) {
        int note = notes >>> 4 * place & 15;
        return note == 15 ? NONE : note;
    }

    private static int withNote(int notes, int place, int note) {
        int shift = 4 * place;
        return notes & ~(15 << shift) | (note & 15) << shift;
    }

    private static int gapsAmong(int notes, int length) {
        int bits = 0;
        for (int place = 0; place < length; place++) {
            if (noteAt(notes, place) == NONE) {
                bits |= 1 << place;
            }
        }
        return bits;
    }

    /** What a text told: it stays until another text is told. */
    private static final class Told {
        private int songs = 0;
        private int people = 0;
        private final int[] lengths = new int[MOST_SONGS];
        private final int[] firsts = new int[MOST_SONGS];
        private final int[] memories = new int[MOST_PEOPLE];
        private final int[] wits = new int[MOST_PEOPLE];
        private final int[] code = new int[MOST_BYTES];
        private int codeEnd = 0;
        private int forgetsFrom = NONE;
        private int forgetsTo = NONE;
        private int fillsFrom = NONE;
        private int fillsTo = NONE;

        private void clear() {
            songs = 0;
            people = 0;
            codeEnd = 0;
            forgetsFrom = NONE;
            forgetsTo = NONE;
            fillsFrom = NONE;
            fillsTo = NONE;
        }

        private void copyFrom(Told other) {
            songs = other.songs;
            people = other.people;
            codeEnd = other.codeEnd;
            forgetsFrom = other.forgetsFrom;
            forgetsTo = other.forgetsTo;
            fillsFrom = other.fillsFrom;
            fillsTo = other.fillsTo;
            System.arraycopy(other.lengths, 0, lengths, 0, MOST_SONGS);
            System.arraycopy(other.firsts, 0, firsts, 0, MOST_SONGS);
            System.arraycopy(other.memories, 0, memories, 0, MOST_PEOPLE);
            System.arraycopy(other.wits, 0, wits, 0, MOST_PEOPLE);
            System.arraycopy(other.code, 0, code, 0, MOST_BYTES);
        }

        private void emit(int step) {
            if (codeEnd < code.length) {
                code[codeEnd] = step;
                codeEnd++;
            }
        }
    }

    /** The DAY, what all have of SONGS, TEACHERS, what all SEEK: one row, so that acts keep it by one copy. */
    private static final class State {
        private static final int DAY_AT = 0;
        private static final int SOUGHT_AT = 1;
        private static final int NOTES_AT = SOUGHT_AT + MOST_PEOPLE;
        private static final int TEACHERS_AT = NOTES_AT + MOST_PEOPLE * MOST_SONGS;
        private static final int SIZE = TEACHERS_AT + MOST_PEOPLE * MOST_SONGS;
        /** All places are GAPS: one has not the SONG. */
        private static final int NO_NOTES = -1;

        private final int[] row = new int[SIZE];

        private State() {
            clear();
        }

        private void clear() {
            Arrays.fill(row, NONE);
            row[DAY_AT] = 0;
        }

        private void copyFrom(State other) {
            System.arraycopy(other.row, 0, row, 0, SIZE);
        }

        private int day() {
            return row[DAY_AT];
        }

        private void nextDay() {
            row[DAY_AT]++;
        }

        private int notes(int person, int song) {
            return row[NOTES_AT + person * MOST_SONGS + song];
        }

        private void setNotes(int person, int song, int notes) {
            row[NOTES_AT + person * MOST_SONGS + song] = notes;
        }

        private boolean holds(int person, int song) {
            return notes(person, song) != NO_NOTES;
        }

        private void drop(int person, int song) {
            setNotes(person, song, NO_NOTES);
        }

        private int teacher(int person, int song) {
            return row[TEACHERS_AT + person * MOST_SONGS + song];
        }

        private void setLearnt(int person, int song, int notes, int other) {
            row[NOTES_AT + person * MOST_SONGS + song] = notes;
            row[TEACHERS_AT + person * MOST_SONGS + song] = other;
        }

        private boolean seeks(int person) {
            return row[SOUGHT_AT + person] != NONE;
        }

        private int soughtSong(int person) {
            return seeks(person) ? row[SOUGHT_AT + person] / MOST_PEOPLE : NONE;
        }

        private int soughtOf(int person) {
            return seeks(person) ? row[SOUGHT_AT + person] % MOST_PEOPLE : NONE;
        }

        private void setSought(int person, int song, int other) {
            row[SOUGHT_AT + person] = song * MOST_PEOPLE + other;
        }

        private void seekNothing(int person) {
            row[SOUGHT_AT + person] = NONE;
        }
    }

    /** How it was ahead of each of the latest ACTS: a ring, so that the oldest one falls out by itself. */
    private static final class Acts {
        private static final int MOST = 40;

        private final int[] rows = new int[MOST * State.SIZE];
        private int oldest = 0;
        private int many = 0;

        private void clear() {
            oldest = 0;
            many = 0;
        }

        private int size() {
            return many;
        }

        private void push(State state) {
            if (many == MOST) {
                oldest = (oldest + 1) % MOST;
                many--;
            }
            System.arraycopy(state.row, 0, rows, startOf(many), State.SIZE);
            many++;
        }

        private void pop(State state) {
            if (many > 0) {
                many--;
                System.arraycopy(rows, startOf(many), state.row, 0, State.SIZE);
            }
        }

        private int startOf(int act) {
            return (oldest + act) % MOST * State.SIZE;
        }

        private void copyFrom(Acts other) {
            oldest = other.oldest;
            many = other.many;
            System.arraycopy(other.rows, 0, rows, 0, rows.length);
        }
    }

    /** What is HEARD: five numbers each. */
    private static final class Heard {
        private static final int MOST = 8;
        private static final int MOST_DAYS = 20;
        private static final int WIDTH = 5;

        private final int[] rows = new int[MOST * WIDTH];
        private int many = 0;

        private void clear() {
            many = 0;
        }

        private int size() {
            return many;
        }

        private boolean put(int person, int song, int place, int days, int note) {
            if (many >= MOST) {
                return false;
            }
            int at = many * WIDTH;
            rows[at] = person;
            rows[at + 1] = song;
            rows[at + 2] = place;
            rows[at + 3] = days;
            rows[at + 4] = note;
            many++;
            return true;
        }

        private void copyFrom(Heard other) {
            many = other.many;
            System.arraycopy(other.rows, 0, rows, 0, rows.length);
        }

        private int lastDays() {
            int last = 0;
            for (int i = 0; i < many; i++) {
                last = Math.max(last, rows[i * WIDTH + 3]);
            }
            return last;
        }

        /** Whether all that is HEARD of just so many DAYS is so in this state. */
        private boolean agrees(State state, int days) {
            for (int i = 0; i < many; i++) {
                int at = i * WIDTH;
                int notes = state.notes(rows[at], rows[at + 1]);
                if (rows[at + 3] == days && noteAt(notes, rows[at + 2]) != rows[at + 4]) {
                    return false;
                }
            }
            return true;
        }
    }

    /** Works a rule out by its steps on a stack: numbers stand for themselves, all other steps are below 0. */
    private static final class Reckoner {
        private static final int MEMORY = 0;
        private static final int WIT = 1;
        private static final int NOTE = 2;
        private static final int PLACE = 3;
        private static final int GAPS = 4;
        private static final int WITH = 5;
        private static final int DAY = 6;
        private static final int BEFORE = 7;
        private static final int AFTER = 8;
        private static final int VALUES = 9;

        private static final int OR = -20;
        private static final int AND = -21;
        private static final int NOT = -22;
        private static final int LESS = -23;
        private static final int SAME = -24;
        private static final int PLUS = -25;
        private static final int MINUS = -26;
        private static final int TIMES = -27;
        private static final int OVER = -28;

        /** An EXPR keeps at most 5 numbers waiting, and there are at most 6 one within the other. */
        private static final int DEEPEST = 64;

        private final int[] values = new int[VALUES];
        private final int[] stack = new int[DEEPEST];

        private static int stepOfValue(int value) {
            return -1 - value;
        }

        private int reckon(int[] code, int from, int to) {
            int height = 0;
            int end = Math.min(to, code.length);
            for (int i = Math.max(from, 0); i < end; i++) {
                int step = code[i];
                int value = -1 - step;
                if (value < VALUES) {
                    if (height < stack.length) {
                        stack[height] = value < 0 ? step : values[value];
                        height++;
                    }
                } else if (step == NOT) {
                    if (height > 0) {
                        stack[height - 1] = stack[height - 1] == 0 ? 1 : 0;
                    }
                } else if (height > 1) {
                    height--;
                    stack[height - 1] = joined(step, stack[height - 1], stack[height]);
                }
            }
            return height > 0 ? stack[height - 1] : 0;
        }

        private static int joined(int step, int left, int right) {
            switch (step) {
                case OR: return left != 0 || right != 0 ? 1 : 0;
                case AND: return left != 0 && right != 0 ? 1 : 0;
                case LESS: return left < right ? 1 : 0;
                case SAME: return left == right ? 1 : 0;
                case PLUS: return left + right;
                case MINUS: return left - right;
                case TIMES: return left * right;
                default: return right == 0 ? 0 : left / right;
            }
        }
    }

    /** What happens: DAYS, lessons, what chance does by a seed. */
    private static final class Course {
        private final Told told;
        private final Reckoner reckoner = new Reckoner();
        private int taught = 0;
        private int forgotten = 0;
        private int pretended = NONE;
        private int pretendedMemory = 0;
        private int seed = 0;

        private Course(Told told) {
            this.told = told;
        }

        private void countAnew() {
            taught = 0;
            forgotten = 0;
        }

        /** This PERSON has this MEMORY until nobody (NONE) is pretended. */
        private void pretend(int person, int memory) {
            pretended = person;
            pretendedMemory = memory;
        }

        private int memoryOf(int person) {
            return person == pretended ? pretendedMemory : told.memories[person];
        }

        private void passDay(State state, boolean winter) {
            for (int person = 0; !winter && person < told.people; person++) {
                for (int song = 0; song < told.songs; song++) {
                    if (state.holds(person, song)) {
                        forgetOneNote(state, person, song);
                    }
                }
            }
            teachSeekers(state);
            state.nextDay();
        }

        private void forgetOneNote(State state, int person, int song) {
            int place = told.forgetsFrom == NONE
                    ? placeByMemory(state, person, song)
                    : placeByRule(state, person, song);
            if (place != NONE) {
                state.setNotes(person, song, withNote(state.notes(person, song), place, NONE));
                forgotten++;
            }
        }

        private int placeByMemory(State state, int person, int song) {
            int every = memoryOf(person) + 1;
            if (every <= 0 || state.day() % every != 0) {
                return NONE;
            }
            int notes = state.notes(person, song);
            for (int place = 0; place < told.lengths[song]; place++) {
                if (noteAt(notes, place) != NONE) {
                    return place;
                }
            }
            return NONE;
        }

        private int placeByRule(State state, int person, int song) {
            int notes = state.notes(person, song);
            int[] values = reckoner.values;
            values[Reckoner.MEMORY] = memoryOf(person);
            values[Reckoner.WIT] = told.wits[person];
            values[Reckoner.GAPS] = gapsIn(song, notes);
            values[Reckoner.WITH] = othersWith(state, person, song);
            values[Reckoner.DAY] = state.day();
            for (int place = 0; place < told.lengths[song]; place++) {
                int note = noteAt(notes, place);
                if (note != NONE) {
                    values[Reckoner.NOTE] = note;
                    values[Reckoner.PLACE] = place;
                    if (reckoner.reckon(told.code, told.forgetsFrom, told.forgetsTo) > 0) {
                        return place;
                    }
                }
            }
            return NONE;
        }

        private int gapsIn(int song, int notes) {
            return Integer.bitCount(gapsAmong(notes, told.lengths[song]));
        }

        private int othersWith(State state, int person, int song) {
            int many = 0;
            for (int other = 0; other < told.people; other++) {
                if (other != person && state.holds(other, song)) {
                    many++;
                }
            }
            return many;
        }

        private void teachSeekers(State state) {
            for (int person = 0; person < told.people; person++) {
                if (state.seeks(person)) {
                    int song = state.soughtSong(person);
                    int other = state.soughtOf(person);
                    boolean ready = state.holds(other, song) && gapsIn(song, state.notes(other, song)) > 0;
                    if (ready && !state.holds(person, song)) {
                        state.setLearnt(person, song, learntNotes(state, person, song, other), other);
                        state.seekNothing(person);
                        taught++;
                    }
                }
            }
        }

        /** The NOTES that one would have by LEARNING it of the other one; the state stays. */
        private int learntNotes(State state, int person, int song, int other) {
            int theirs = state.notes(other, song);
            int mine = State.NO_NOTES;
            int before = 0;
            for (int place = 0; place < told.lengths[song]; place++) {
                int note = noteAt(theirs, place);
                if (note == NONE) {
                    note = filled(state, person, place, before, noteBehind(song, theirs, place));
                }
                mine = withNote(mine, place, note);
                before = note;
            }
            return mine;
        }

        private int noteBehind(int song, int notes, int place) {
            if (place + 1 >= told.lengths[song]) {
                return 0;
            }
            return Math.max(0, noteAt(notes, place + 1));
        }

        private int filled(State state, int person, int place, int before, int after) {
            if (told.fillsFrom == NONE) {
                return before;
            }
            int[] values = reckoner.values;
            values[Reckoner.WIT] = told.wits[person];
            values[Reckoner.PLACE] = place;
            values[Reckoner.BEFORE] = before;
            values[Reckoner.AFTER] = after;
            values[Reckoner.DAY] = state.day();
            int note = reckoner.reckon(told.code, told.fillsFrom, told.fillsTo);
            return Math.max(0, Math.min(HIGHEST_DIGIT, note));
        }

        private void sow(int newSeed) {
            seed = newSeed;
        }

        private int draw(int many) {
            seed = seed * 1103515245 + 12345;
            return many > 0 ? (seed >>> 16 & 0x7FFF) % many : 0;
        }

        /** What chance does ahead of a DAY. */
        private void chance(State state) {
            int kind = draw(5);
            if (kind > 1 || told.people == 0 || told.songs == 0) {
                return;
            }
            int person = draw(told.people);
            int song = draw(told.songs);
            if (kind == 1) {
                state.drop(person, song);
                return;
            }
            int other = draw(told.people);
            if (other == person) {
                state.seekNothing(person);
            } else {
                state.setSought(person, song, other);
            }
        }
    }

    /** What can be seen in a state; nothing here changes one. */
    private static final class View {
        private final Told told;
        private final int[] commonRow = new int[MOST_NOTES + 1];

        private View(Told told) {
            this.told = told;
        }

        /** Bits by places; 0 of a SONG that one hasn't. */
        private int gapBits(int song, int notes) {
            return notes == State.NO_NOTES ? 0 : gapsAmong(notes, told.lengths[song]);
        }

        private int gapCount(int song, int notes) {
            return Integer.bitCount(gapBits(song, notes));
        }

        private int noteCount(int song, int notes) {
            return notes == State.NO_NOTES ? 0 : told.lengths[song] - gapCount(song, notes);
        }

        private int likeFirst(int song, int notes) {
            int like = 0;
            for (int place = 0; place < told.lengths[song]; place++) {
                if (noteAt(notes, place) == noteAt(told.firsts[song], place)) {
                    like++;
                }
            }
            return like;
        }

        private int songsOf(State state, int person) {
            int bits = 0;
            for (int song = 0; song < told.songs; song++) {
                if (state.holds(person, song)) {
                    bits |= 1 << song;
                }
            }
            return bits;
        }

        private int singers(State state, int song) {
            int bits = 0;
            for (int person = 0; person < told.people; person++) {
                if (state.holds(person, song)) {
                    bits |= 1 << person;
                }
            }
            return bits;
        }

        private int readyTeachers(State state, int song) {
            int bits = 0;
            for (int person = 0; person < told.people; person++) {
                if (gapBits(song, state.notes(person, song)) != 0) {
                    bits |= 1 << person;
                }
            }
            return bits;
        }

        private int wholeSingers(State state, int song) {
            return singers(state, song) & ~readyTeachers(state, song);
        }

        private int unsungSongs(State state) {
            int bits = 0;
            for (int song = 0; song < told.songs; song++) {
                if (singers(state, song) == 0) {
                    bits |= 1 << song;
                }
            }
            return bits;
        }

        private int seekers(State state) {
            int bits = 0;
            for (int person = 0; person < told.people; person++) {
                if (state.seeks(person)) {
                    bits |= 1 << person;
                }
            }
            return bits;
        }

        private int gapsOfPerson(State state, int person) {
            int many = 0;
            for (int song = 0; song < told.songs; song++) {
                many += gapCount(song, state.notes(person, song));
            }
            return many;
        }

        private int gapsOfAll(State state) {
            int many = 0;
            for (int person = 0; person < told.people; person++) {
                many += gapsOfPerson(state, person);
            }
            return many;
        }

        private boolean canLearn(State state, int person, int song, int other) {
            return !state.holds(person, song) && gapBits(song, state.notes(other, song)) != 0;
        }

        private int unlike(int song, int mine, int theirs) {
            int many = 0;
            for (int place = 0; place < told.lengths[song]; place++) {
                int note = noteAt(mine, place);
                int other = noteAt(theirs, place);
                if (note != NONE && other != NONE && note != other) {
                    many++;
                }
            }
            return many;
        }

        /** The longest common row; a GAP is like nothing, which leaves it out. */
        private int common(int song, int mine, int theirs) {
            int length = Math.min(told.lengths[song], MOST_NOTES);
            Arrays.fill(commonRow, 0);
            for (int i = 0; i < length; i++) {
                int note = noteAt(mine, i);
                int diagonal = 0;
                for (int j = 1; j <= length; j++) {
                    int above = commonRow[j];
                    boolean same = note != NONE && note == noteAt(theirs, j - 1);
                    commonRow[j] = same ? diagonal + 1 : Math.max(above, commonRow[j - 1]);
                    diagonal = above;
                }
            }
            return commonRow[length];
        }

        private int nearest(State state, int song) {
            int who = NONE;
            int least = 0;
            for (int person = 0; person < told.people; person++) {
                if (state.holds(person, song)) {
                    int sum = unlikeAll(state, person, song);
                    if (who == NONE || sum < least) {
                        least = sum;
                        who = person;
                    }
                }
            }
            return who;
        }

        /** UNLIKE with all who HAVE the SONG, together; NONE for nobody. */
        private int unlikeAll(State state, int person, int song) {
            if (person == NONE) {
                return NONE;
            }
            int sum = 0;
            for (int other = 0; other < told.people; other++) {
                if (state.holds(other, song)) {
                    sum += unlike(song, state.notes(person, song), state.notes(other, song));
                }
            }
            return sum;
        }

        private int pupils(State state, int person, int song) {
            int bits = 0;
            for (int other = 0; other < told.people; other++) {
                if (state.teacher(other, song) == person) {
                    bits |= 1 << other;
                }
            }
            return bits;
        }

        /** As many steps as there are PEOPLE are made only if it comes round. */
        private int generation(State state, int person, int song) {
            int steps = 0;
            int teacher = state.teacher(person, song);
            while (steps < told.people && teacher != NONE) {
                steps++;
                teacher = state.teacher(teacher, song);
            }
            return steps;
        }

        private int taughtBy(State state, int person, int song) {
            int bits = 0;
            int teacher = state.teacher(person, song);
            for (int step = 0; step < told.people && teacher != NONE; step++) {
                bits |= 1 << teacher;
                teacher = state.teacher(teacher, song);
            }
            return bits;
        }

        private int origin(State state, int person, int song) {
            int last = NONE;
            int teacher = state.teacher(person, song);
            for (int step = 0; step < told.people && teacher != NONE; step++) {
                last = teacher;
                teacher = state.teacher(teacher, song);
            }
            return teacher == NONE ? last : NONE;
        }

        private int changes(int song, int notes) {
            int many = 0;
            int ahead = NONE;
            for (int place = 0; place < told.lengths[song]; place++) {
                int note = noteAt(notes, place);
                if (note != NONE) {
                    if (ahead != NONE && note != ahead) {
                        many++;
                    }
                    ahead = note;
                }
            }
            return many;
        }

        private int highest(int song, int notes) {
            int high = NONE;
            for (int place = 0; place < told.lengths[song]; place++) {
                high = Math.max(high, noteAt(notes, place));
            }
            return high;
        }

        private int agreedNote(State state, int song, int place) {
            int agreed = NONE;
            int best = 0;
            for (int note = 0; note <= HIGHEST_DIGIT; note++) {
                int many = 0;
                for (int person = 0; person < told.people; person++) {
                    if (noteAt(state.notes(person, song), place) == note) {
                        many++;
                    }
                }
                if (many > best) {
                    best = many;
                    agreed = note;
                }
            }
            return agreed;
        }

        private int keptPlaces(State state, int song) {
            if (singers(state, song) == 0) {
                return NONE;
            }
            int bits = 0;
            for (int place = 0; place < told.lengths[song]; place++) {
                if (allKeep(state, song, place)) {
                    bits |= 1 << place;
                }
            }
            return bits;
        }

        private boolean allKeep(State state, int song, int place) {
            int wanted = noteAt(told.firsts[song], place);
            for (int person = 0; person < told.people; person++) {
                if (state.holds(person, song) && noteAt(state.notes(person, song), place) != wanted) {
                    return false;
                }
            }
            return true;
        }

        private int rarestSong(State state) {
            int rarest = NONE;
            int fewest = MOST_PEOPLE + 1;
            for (int song = 0; song < told.songs; song++) {
                int many = Integer.bitCount(singers(state, song));
                if (many > 0 && many < fewest) {
                    fewest = many;
                    rarest = song;
                }
            }
            return rarest;
        }
    }

    /** Finds the best LESSONS for all by trying every way, the first rows first. */
    private static final class Lessons {
        private final Told told;
        /** How LIKE it would be, by who LEARNS and of whom; NONE where one can't. */
        private final int[] likes = new int[MOST_PEOPLE * MOST_PEOPLE];
        private final int[] way = new int[MOST_PEOPLE];
        private final int[] best = new int[MOST_PEOPLE];
        private int bestMany = 0;
        private int bestLike = 0;

        private Lessons(Told told) {
            this.told = told;
        }

        private void clear() {
            Arrays.fill(likes, NONE);
        }

        private void offer(int person, int other, int like) {
            likes[person * MOST_PEOPLE + other] = like;
        }

        private void solve() {
            Arrays.fill(way, NONE);
            Arrays.fill(best, NONE);
            bestMany = 0;
            bestLike = 0;
            assign(0, 0, 0, 0);
        }

        private int bestMany() {
            return bestMany;
        }

        private int bestLike() {
            return bestLike;
        }

        private int bestTeacher(int person) {
            return best[person];
        }

        /** Only a better way takes the place of one found before, so that of like ones the first row stays. */
        private void assign(int person, int used, int many, int like) {
            if (person >= told.people || person >= MOST_PEOPLE) {
                if (many > bestMany || many == bestMany && like > bestLike) {
                    bestMany = many;
                    bestLike = like;
                    System.arraycopy(way, 0, best, 0, MOST_PEOPLE);
                }
                return;
            }
            for (int other = 0; other < told.people; other++) {
                int gain = likes[person * MOST_PEOPLE + other];
                if (gain != NONE && (used >> other & 1) == 0) {
                    way[person] = other;
                    assign(person + 1, used | 1 << other, many + 1, like + gain);
                }
            }
            way[person] = NONE;
            assign(person + 1, used, many, like);
        }
    }

    /** The TOKENS of a text, one at a time, and its first FAULT, behind which there are no more. */
    private static final class Tokens {
        private static final int END = 0;
        private static final int WORD = 1;
        private static final int NUMBER = 2;
        private static final int SIGN = 3;
        private static final int STRANGE = 4;
        private static final int STOPPED = 5;

        private static final int LONGEST_NUMBER = 4;
        private static final String SIGNS = ";()+-*/<=";

        private final byte[] text;
        private int length = 0;
        private int at = 0;
        private int kind = END;
        private int start = 0;
        private int value = 0;
        private char sign = ' ';
        private int fault = 0;
        private int place = NONE;

        private Tokens(byte[] text) {
            this.text = text;
        }

        private void begin(int bytes) {
            length = Math.min(bytes, text.length);
            at = 0;
            kind = END;
            fault = 0;
            place = NONE;
            next();
        }

        private void fail(int newFault) {
            if (fault == 0) {
                fault = newFault;
                place = start;
                kind = STOPPED;
            }
        }

        private boolean goesOn() {
            return kind != END && kind != STOPPED;
        }

        private void next() {
            if (kind == STOPPED) {
                return;
            }
            while (at < length && (text[at] == 32 || text[at] == 10)) {
                at++;
            }
            start = at;
            if (at >= length) {
                kind = END;
            } else if (isLetter(text[at])) {
                takeWord();
            } else if (isDigit(text[at])) {
                takeNumber();
            } else {
                takeSign();
            }
        }

        private void takeWord() {
            kind = WORD;
            while (at < length && isLetter(text[at])) {
                at++;
            }
        }

        /** Digits behind the fourth count only by being there, so that the value never wraps. */
        private void takeNumber() {
            kind = NUMBER;
            value = 0;
            while (at < length && isDigit(text[at])) {
                if (at - start < LONGEST_NUMBER) {
                    value = value * 10 + (text[at] - '0');
                }
                at++;
            }
        }

        private void takeSign() {
            sign = (char) (text[at] & 255);
            kind = SIGNS.indexOf(sign) >= 0 ? SIGN : STRANGE;
            at++;
        }

        private static boolean isLetter(byte one) {
            return one >= 'a' && one <= 'z';
        }

        private static boolean isDigit(byte one) {
            return one >= '0' && one <= '9';
        }

        private boolean isNumber() {
            return kind == NUMBER;
        }

        private boolean isTooLong() {
            return at - start > LONGEST_NUMBER;
        }

        private boolean isSign(char wanted) {
            return kind == SIGN && sign == wanted;
        }

        private boolean isWord(String wanted) {
            if (kind != WORD || at - start != wanted.length()) {
                return false;
            }
            for (int i = 0; i < wanted.length(); i++) {
                if (text[start + i] != wanted.charAt(i)) {
                    return false;
                }
            }
            return true;
        }
    }

    /** Reads a MARSH into told and start, which hold nothing of worth behind a FAULT. */
    private static final class Reader {
        private static final int CANT_STAND = 1;
        private static final int TOO_MUCH = 2;
        private static final int NOT_TOLD = 3;
        private static final int TOLD_BEFORE = 4;
        private static final int SECOND_RULE = 5;
        private static final int MOST_GAP_BITS = 255;

        private final Tokens tokens;
        private final Told told = new Told();
        private final State start = new State();
        private final int[] toldOf = new int[MOST_PEOPLE];
        private final Expressions expressions;

        private Reader(byte[] tape) {
            tokens = new Tokens(tape);
            expressions = new Expressions(tokens, told);
        }

        /** 0, or the FAULT of the tape's first n bytes. */
        private int readText(int n) {
            told.clear();
            start.clear();
            Arrays.fill(toldOf, 0);
            tokens.begin(n);
            for (int lines = 0; lines < MOST_BYTES && tokens.goesOn(); lines++) {
                readLine();
            }
            return tokens.fault;
        }

        private int faultPlace() {
            return tokens.place;
        }

        private void readLine() {
            if (tokens.isWord("song")) {
                readSong();
            } else if (tokens.isWord("person")) {
                readPerson();
            } else if (tokens.isWord("has")) {
                readHas();
            } else if (tokens.isWord("seeks")) {
                readSeeks();
            } else if (tokens.isWord("forgets")) {
                readForgets();
            } else if (tokens.isWord("fills")) {
                readFills();
            } else {
                tokens.fail(CANT_STAND);
            }
            if (!tokens.isSign(';')) {
                tokens.fail(CANT_STAND);
            }
            tokens.next();
        }

        private void readSong() {
            if (told.songs >= MOST_SONGS) {
                tokens.fail(TOO_MUCH);
                return;
            }
            tokens.next();
            int notes = withNote(State.NO_NOTES, 0, readNumber(HIGHEST_DIGIT));
            int many = 1;
            while (many < MOST_NOTES && tokens.isNumber()) {
                notes = withNote(notes, many, readNumber(HIGHEST_DIGIT));
                many++;
            }
            if (tokens.isNumber()) {
                tokens.fail(TOO_MUCH);
            }
            told.lengths[told.songs] = many;
            told.firsts[told.songs] = notes;
            told.songs++;
        }

        private void readPerson() {
            if (told.people >= MOST_PEOPLE) {
                tokens.fail(TOO_MUCH);
                return;
            }
            tokens.next();
            told.memories[told.people] = readNumber(HIGHEST_DIGIT);
            told.wits[told.people] = readNumber(HIGHEST_DIGIT);
            told.people++;
        }

        private void readHas() {
            tokens.next();
            int person = lookAtTold(told.people);
            tokens.next();
            int song = lookAtTold(told.songs);
            if ((toldOf[person] >> song & 1) == 1) {
                tokens.fail(TOLD_BEFORE);
            }
            tokens.next();
            int gaps = readNumber(MOST_GAP_BITS);
            toldOf[person] |= 1 << song;
            int notes = told.firsts[song];
            for (int place = 0; place < MOST_NOTES; place++) {
                if ((gaps >> place & 1) == 1) {
                    notes = withNote(notes, place, NONE);
                }
            }
            start.setNotes(person, song, notes);
        }

        private void readSeeks() {
            tokens.next();
            int person = lookAtTold(told.people);
            if (start.seeks(person)) {
                tokens.fail(TOLD_BEFORE);
            }
            tokens.next();
            int song = lookAtTold(told.songs);
            tokens.next();
            int other = lookAtTold(told.people);
            if (other == person) {
                tokens.fail(TOLD_BEFORE);
            }
            tokens.next();
            start.setSought(person, song, other);
        }

        private void readForgets() {
            if (told.forgetsFrom != NONE) {
                tokens.fail(SECOND_RULE);
                return;
            }
            tokens.next();
            told.forgetsFrom = told.codeEnd;
            expressions.ofForgets = true;
            expressions.readExpr(0);
            told.forgetsTo = told.codeEnd;
        }

        private void readFills() {
            if (told.fillsFrom != NONE) {
                tokens.fail(SECOND_RULE);
                return;
            }
            tokens.next();
            told.fillsFrom = told.codeEnd;
            expressions.ofForgets = false;
            expressions.readExpr(0);
            told.fillsTo = told.codeEnd;
        }

        /** A NUMBER up to most; 0 with a FAULT. */
        private int readNumber(int most) {
            if (!tokens.isNumber()) {
                tokens.fail(CANT_STAND);
                return 0;
            }
            if (tokens.isTooLong() || tokens.value > most) {
                tokens.fail(TOO_MUCH);
                return 0;
            }
            int number = tokens.value;
            tokens.next();
            return number;
        }

        /** A PERSON or SONG of so many that are told; 0 with a FAULT. It stays the TOKEN, for other FAULTS of it. */
        private int lookAtTold(int many) {
            if (!tokens.isNumber()) {
                tokens.fail(CANT_STAND);
            } else if (tokens.isTooLong()) {
                tokens.fail(TOO_MUCH);
            } else if (tokens.value >= many) {
                tokens.fail(NOT_TOLD);
            } else {
                return tokens.value;
            }
            return 0;
        }
    }

    /** Reads an EXPR and emits its steps; behind a FAULT no TOKEN fits any more, which ends every loop. */
    private static final class Expressions {
        private static final int MOST_AROUND = 6;
        private static final int MOST_NOTS = 6;

        private final Tokens tokens;
        private final Told told;
        private boolean ofForgets = false;

        private Expressions(Tokens tokens, Told told) {
            this.tokens = tokens;
            this.told = told;
        }

        private void readExpr(int around) {
            if (around >= MOST_AROUND) {
                boolean canBegin = tokens.isNumber() || tokens.kind == Tokens.WORD || tokens.isSign('(');
                tokens.fail(canBegin ? Reader.TOO_MUCH : Reader.CANT_STAND);
                return;
            }
            readAnd(around);
            for (int i = 0; i < MOST_BYTES && tokens.isWord("or"); i++) {
                tokens.next();
                readAnd(around);
                told.emit(Reckoner.OR);
            }
        }

        private void readAnd(int around) {
            readNot(around);
            for (int i = 0; i < MOST_BYTES && tokens.isWord("and"); i++) {
                tokens.next();
                readNot(around);
                told.emit(Reckoner.AND);
            }
        }

        private void readNot(int around) {
            int nots = 0;
            while (nots < MOST_NOTS && tokens.isWord("not")) {
                nots++;
                tokens.next();
            }
            if (tokens.isWord("not")) {
                tokens.fail(Reader.TOO_MUCH);
                return;
            }
            readTest(around);
            for (int i = 0; i < nots; i++) {
                told.emit(Reckoner.NOT);
            }
        }

        private void readTest(int around) {
            readSum(around);
            if (tokens.isSign('<') || tokens.isSign('=')) {
                int step = tokens.isSign('<') ? Reckoner.LESS : Reckoner.SAME;
                tokens.next();
                readSum(around);
                told.emit(step);
            }
        }

        private void readSum(int around) {
            readProduct(around);
            for (int i = 0; i < MOST_BYTES && (tokens.isSign('+') || tokens.isSign('-')); i++) {
                int step = tokens.isSign('+') ? Reckoner.PLUS : Reckoner.MINUS;
                tokens.next();
                readProduct(around);
                told.emit(step);
            }
        }

        private void readProduct(int around) {
            readPart(around);
            for (int i = 0; i < MOST_BYTES && (tokens.isSign('*') || tokens.isSign('/')); i++) {
                int step = tokens.isSign('*') ? Reckoner.TIMES : Reckoner.OVER;
                tokens.next();
                readPart(around);
                told.emit(step);
            }
        }

        private void readPart(int around) {
            if (tokens.isNumber()) {
                if (tokens.isTooLong()) {
                    tokens.fail(Reader.TOO_MUCH);
                }
                told.emit(tokens.value);
                tokens.next();
            } else if (tokens.kind == Tokens.WORD) {
                emitValue();
                tokens.next();
            } else if (tokens.isSign('(')) {
                tokens.next();
                readExpr(around + 1);
                if (!tokens.isSign(')')) {
                    tokens.fail(Reader.CANT_STAND);
                }
                tokens.next();
            } else {
                tokens.fail(Reader.CANT_STAND);
            }
        }

        private void emitValue() {
            int value = commonValue();
            if (value == NONE) {
                value = ofForgets ? forgetsValue() : fillsValue();
            }
            if (value == NONE) {
                tokens.fail(Reader.NOT_TOLD);
                return;
            }
            told.emit(Reckoner.stepOfValue(value));
        }

        private int commonValue() {
            if (tokens.isWord("wit")) {
                return Reckoner.WIT;
            }
            if (tokens.isWord("place")) {
                return Reckoner.PLACE;
            }
            return tokens.isWord("day") ? Reckoner.DAY : NONE;
        }

        private int forgetsValue() {
            if (tokens.isWord("memory")) {
                return Reckoner.MEMORY;
            }
            if (tokens.isWord("note")) {
                return Reckoner.NOTE;
            }
            if (tokens.isWord("gaps")) {
                return Reckoner.GAPS;
            }
            return tokens.isWord("with") ? Reckoner.WITH : NONE;
        }

        private int fillsValue() {
            if (tokens.isWord("before")) {
                return Reckoner.BEFORE;
            }
            return tokens.isWord("after") ? Reckoner.AFTER : NONE;
        }
    }
}
