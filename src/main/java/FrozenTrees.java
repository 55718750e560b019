import java.util.Arrays;

/**
 * Process trees frozen and raised again: a system told as a text of events, looked at at any tick.
 * Every row is made in a constructor and used again, so that no call makes an object.
 */
public final class FrozenTrees {
    public static final int NONE = -1;

    private static final int WRONG = -2;
    private static final int BELOW_ZERO = -3;
    private static final int FAULTY = -4;
    private static final int SPENT = -5;
    private static final int NOTHING = -6;
    private static final int BEYOND = -7;
    private static final int OTHER_WIDTH = -8;
    private static final int NO_SHARE = -1000;

    private static final int PROCESSES = 15;
    private static final int HANDLES = 8;
    private static final int PAGES = 8;
    private static final int LAWS = 4;
    private static final int OBJECTS = 200;
    private static final int TAPE_BYTES = 900;
    private static final int FEED_BYTES = 20;
    private static final int TOLD_MOST = 40;
    private static final int ACTS_MOST = 30;
    private static final int EVENTS_MOST = 70;
    private static final int PIPE_BYTES = 60;
    private static final int ROW_MOST = 60;
    private static final int SLOTS = 4;
    private static final int WIDTHS = 4;
    private static final int IMAGES = 3;
    private static final int PACE_MOST = 40;
    private static final int CHANCE_MOST = 6;
    private static final int LUCK_MOST = 20;
    private static final int SEED_MOST = 2000000000;
    private static final int SET_MOST = 32767;
    private static final int ODDS_MOST = 10;

    private static final int FORK = 0;
    private static final int LEAD = 1;
    private static final int EXIT = 2;
    private static final int OPEN = 3;
    private static final int PIPE = 4;
    private static final int COPY = 5;
    private static final int CLOSE = 6;
    private static final int WRITE = 7;
    private static final int READ = 8;
    private static final int TOUCH = 9;
    private static final int KINDS = 10;

    private static final int FILE = 0;
    private static final int READ_END = 1;
    private static final int WRITE_END = 2;

    /** How often, of the 720 orders of six, one comes right behind a certain set of 0 .. 5 others. */
    private static final int[] ORDERS = {120, 24, 12, 12, 24, 120};
    private static final int ALL_ORDERS = 720;
    private static final int SHARERS = 6;
    /** PROCESSES 1 and 8 .. 15, who are in each set of which a share is reckoned. */
    private static final int ALWAYS = 0x7F81;

    private final Tape tape;
    private final Reader reader;
    private final Story story;
    private final Story draft;
    private final Story[] images;
    private final Row[] rows;
    private final Seen seen;
    private final Film film;
    private final Shapes forms;
    private final Plan plan;
    private final World trial;
    private final int[] worths;

    public FrozenTrees() {
        tape = new Tape();
        reader = new Reader(tape);
        story = new Story();
        draft = new Story();
        images = new Story[IMAGES];
        for (int k = 0; k < IMAGES; k++) {
            images[k] = new Story();
        }
        rows = new Row[SLOTS];
        for (int slot = 0; slot < SLOTS; slot++) {
            rows[slot] = new Row();
        }
        seen = new Seen();
        film = new Film(story);
        forms = new Shapes(film, story);
        plan = new Plan();
        trial = new World();
        worths = new int[1 << SHARERS];
    }

    // ---- the TAPE and the SYSTEM

    public int feed(int a, int b, int c, int d, int e) {
        if (tape.size + FEED_BYTES > TAPE_BYTES) {
            return NONE;
        }
        tape.put(a);
        tape.put(b);
        tape.put(c);
        tape.put(d);
        tape.put(e);
        return tape.size;
    }

    public int end(int n) {
        if (n < 0 || n > tape.size) {
            return NONE;
        }
        tape.size = n;
        return n;
    }

    public int system() {
        reader.readInto(draft);
        tape.size = 0;
        if (reader.fault != 0) {
            return FAULTY;
        }
        story.become(draft);
        forgetRuns();
        return story.lines;
    }

    public int fault(int what) {
        if (what == 0) {
            return reader.fault;
        }
        return what == 1 ? reader.place : NONE;
    }

    public int event(int event, int what) {
        if (event < 0 || event >= story.events() || what < 0 || what > 3) {
            return WRONG;
        }
        int code = story.code(event);
        int its = Code.kindOf(code);
        if (what == 0) {
            return its;
        }
        return what > Code.numbersOf(its) ? NONE : Code.numberOf(code, what);
    }

    // ---- frozen at a TICK: processes

    public int refused(int event) {
        if (event < 0 || event >= story.events()) {
            return WRONG;
        }
        return film.whyRefused(event);
    }

    public int refusals(int tick) {
        return noTick(tick) ? WRONG : film.refusedBefore(tick);
    }

    public int alive(int tick) {
        return noTick(tick) ? WRONG : film.at(tick).living;
    }

    public int parent(int process, int tick) {
        if (noProcess(process) || noTick(tick)) {
            return WRONG;
        }
        return film.at(tick).hangsFrom(process);
    }

    public int session(int process, int tick) {
        if (noProcess(process) || noTick(tick)) {
            return WRONG;
        }
        World world = film.at(tick);
        return world.lives(process) ? world.sessionOf[process] : NONE;
    }

    public int kids(int process, int tick) {
        if (noProcess(process) || noTick(tick)) {
            return WRONG;
        }
        World world = film.at(tick);
        int bits = 0;
        for (int p = 1; p <= PROCESSES; p++) {
            if (world.hangsFrom(p) == process) {
                bits |= bit(p);
            }
        }
        return bits;
    }

    public int under(int process, int tick) {
        if (noProcess(process) || noTick(tick)) {
            return WRONG;
        }
        return film.at(tick).countBelow(process);
    }

    public int depth(int process, int tick) {
        if (noProcess(process) || noTick(tick)) {
            return WRONG;
        }
        World world = film.at(tick);
        return world.lives(process) ? world.stepsUp(process) : NONE;
    }

    public int members(int session, int tick) {
        if (noProcess(session) || noTick(tick)) {
            return WRONG;
        }
        World world = film.at(tick);
        int bits = 0;
        for (int p = 1; p <= PROCESSES; p++) {
            if (world.lives(p) && world.sessionOf[p] == session) {
                bits |= bit(p);
            }
        }
        return bits;
    }

    public int sessions(int tick) {
        if (noTick(tick)) {
            return WRONG;
        }
        World world = film.at(tick);
        int bits = 0;
        for (int p = 1; p <= PROCESSES; p++) {
            if (world.lives(p)) {
                bits |= bit(world.sessionOf[p]);
            }
        }
        return Integer.bitCount(bits);
    }

    public int born(int process) {
        if (noProcess(process) || noSystem()) {
            return WRONG;
        }
        return firstTickOf(process, true, 0);
    }

    public int died(int process) {
        if (noProcess(process) || noSystem()) {
            return WRONG;
        }
        int first = firstTickOf(process, true, 0);
        return first < 0 ? NONE : firstTickOf(process, false, first);
    }

    // ---- frozen at a TICK: handles and objects

    public int object(int process, int handle, int tick) {
        if (noHandle(process, handle) || noTick(tick)) {
            return WRONG;
        }
        return film.at(tick).objectOf(process, handle);
    }

    public int handles(int process, int tick) {
        if (noProcess(process) || noTick(tick)) {
            return WRONG;
        }
        World world = film.at(tick);
        int bits = 0;
        for (int h = 0; h < HANDLES; h++) {
            if (world.objectOf(process, h) >= 0) {
                bits |= 1 << h;
            }
        }
        return bits;
    }

    public int holds(int object, int tick) {
        if (noObject(object) || noTick(tick)) {
            return WRONG;
        }
        return film.at(tick).holders[object];
    }

    public int kind(int object, int tick) {
        if (noObject(object) || noTick(tick)) {
            return WRONG;
        }
        World world = film.at(tick);
        return object < world.made ? world.sort[object] : NONE;
    }

    public int objects(int tick) {
        if (noTick(tick)) {
            return WRONG;
        }
        World world = film.at(tick);
        int held = 0;
        for (int o = 0; o < world.made; o++) {
            if (world.holders[o] > 0) {
                held++;
            }
        }
        return held;
    }

    public int queued(int object, int tick) {
        if (noObject(object) || noTick(tick)) {
            return WRONG;
        }
        return film.at(tick).bytesOf(object);
    }

    public int bytes(int tick) {
        if (noTick(tick)) {
            return WRONG;
        }
        World world = film.at(tick);
        int all = 0;
        for (int o = 0; o < world.made; o++) {
            if (world.sort[o] == READ_END) {
                all += Math.max(0, world.bytesOf(o));
            }
        }
        return all;
    }

    public int label(int process, int handle, int tick) {
        if (noHandle(process, handle) || noTick(tick)) {
            return WRONG;
        }
        World world = film.at(tick);
        forms.giveLabels(world);
        return forms.labelOf(world.objectOf(process, handle));
    }

    public int sharers(int process, int handle, int tick) {
        if (noHandle(process, handle) || noTick(tick)) {
            return WRONG;
        }
        World world = film.at(tick);
        int object = world.objectOf(process, handle);
        return object < 0 ? 0 : world.holdersOf(object);
    }

    // ---- SHAPES

    public int alike(int tick, int other) {
        if (noTick(tick) || noTick(other)) {
            return WRONG;
        }
        forms.learn();
        return forms.firstLike(tick) == forms.firstLike(other) ? 1 : 0;
    }

    public int same(int tick) {
        if (noTick(tick)) {
            return WRONG;
        }
        forms.learn();
        return forms.firstLike(tick);
    }

    public int shapes() {
        if (noSystem()) {
            return WRONG;
        }
        forms.learn();
        int unlike = 0;
        for (int t = 0; t <= story.events(); t++) {
            if (forms.firstLike(t) == t) {
                unlike++;
            }
        }
        return unlike;
    }

    public int usual() {
        if (noSystem()) {
            return WRONG;
        }
        forms.learn();
        return forms.mostSeen();
    }

    // ---- the plan that raises it

    public int how(int process, int tick) {
        if (noProcess(process) || noTick(tick)) {
            return WRONG;
        }
        World world = film.at(tick);
        if (!world.lives(process)) {
            return NONE;
        }
        plan.make(world);
        return plan.way[process];
    }

    public int lost(int tick) {
        if (noTick(tick)) {
            return WRONG;
        }
        plan.make(film.at(tick));
        return plan.left;
    }

    public int steps(int tick) {
        if (noTick(tick)) {
            return WRONG;
        }
        plan.make(film.at(tick));
        return 2 * (plan.countBy(1) - 1) + plan.countBy(2) + plan.countBy(3) + 3 * plan.countBy(4);
    }

    public int raised(int i, int tick) {
        if (i < 0 || noTick(tick)) {
            return WRONG;
        }
        plan.make(film.at(tick));
        return i < plan.size ? plan.order[i] : NONE;
    }

    public int helpers(int tick) {
        if (noTick(tick)) {
            return WRONG;
        }
        plan.make(film.at(tick));
        return plan.countBy(4);
    }

    public int safe() {
        if (noSystem()) {
            return WRONG;
        }
        int last = 0;
        for (int t = 0; t <= story.events(); t++) {
            plan.make(film.at(t));
            if (plan.left == 0) {
                last = t;
            }
        }
        return last;
    }

    // ---- pages copied ahead of the stop

    public int dirty(int process, int a, int z) {
        if (noProcess(process) || noTick(a) || noTick(z) || z < a) {
            return WRONG;
        }
        film.at(a).clean();
        World world = film.at(z);
        return world.lives(process) ? world.soiled[process] : 0;
    }

    public int round(int a, int e, int z, int round) {
        if (noPrecopy(a, e, z) || round < 0) {
            return WRONG;
        }
        film.precopy(a, e, z, round);
        return film.copiedInRound;
    }

    public int copied(int a, int e, int z) {
        if (noPrecopy(a, e, z)) {
            return WRONG;
        }
        film.precopy(a, e, z, 0);
        return film.copiedInAll;
    }

    public int pace(int a, int z) {
        if (noPrecopy(a, 1, z)) {
            return WRONG;
        }
        int best = 0;
        int last = 0;
        int all = 0;
        for (int e = 1; e <= PACE_MOST; e++) {
            film.precopy(a, e, z, 0);
            boolean fewer = film.copiedLast < last || film.copiedLast == last && film.copiedInAll <= all;
            if (best == 0 || fewer) {
                best = e;
                last = film.copiedLast;
                all = film.copiedInAll;
            }
        }
        return best;
    }

    // ---- an EVENT left out, another LAW

    public int spare() {
        if (noSystem()) {
            return WRONG;
        }
        int most = Integer.bitCount(film.at(story.events()).living);
        int best = NONE;
        for (int e = 0; e < story.told; e++) {
            runTrial(e, story.law);
            int count = Integer.bitCount(trial.living);
            if (count > most) {
                most = count;
                best = e;
            }
        }
        return best;
    }

    public int root() {
        if (noSystem()) {
            return WRONG;
        }
        int now = film.refusedBefore(story.events());
        int most = 0;
        int best = NONE;
        for (int e = 0; e < story.told; e++) {
            int itself = film.whyRefused(e) != 0 ? 1 : 0;
            int more = runTrial(e, story.law) - (now - itself);
            if (more > most) {
                most = more;
                best = e;
            }
        }
        return best;
    }

    public int may(int slot) {
        int no = lookAt(slot);
        if (no != 0) {
            return no;
        }
        int can = 0;
        for (int e = 0; e < story.told; e++) {
            if (isAsSeen(e, story.law)) {
                can++;
            }
        }
        return can;
    }

    public int which(int slot) {
        int no = lookAt(slot);
        if (no != 0) {
            return no;
        }
        for (int e = 0; e < story.told; e++) {
            if (isAsSeen(e, story.law)) {
                return e;
            }
        }
        return NONE;
    }

    public int plain(int slot) {
        int no = lookAt(slot);
        if (no != 0) {
            return no;
        }
        return isAsSeen(NONE, story.law) ? 1 : 0;
    }

    public int laws(int slot) {
        int no = lookAt(slot);
        if (no != 0) {
            return no;
        }
        int bits = 0;
        for (int l = 0; l < LAWS; l++) {
            if (isAsSeen(NONE, l)) {
                bits |= 1 << l;
            }
        }
        return bits;
    }

    public int by(int law) {
        if (law < 0 || law >= LAWS || noSystem()) {
            return WRONG;
        }
        return lostBy(law);
    }

    public int law() {
        if (noSystem()) {
            return WRONG;
        }
        int best = 0;
        int fewest = lostBy(0);
        for (int l = 1; l < LAWS; l++) {
            int count = lostBy(l);
            if (count < fewest) {
                fewest = count;
                best = l;
            }
        }
        return best;
    }

    // ---- shares, two that may exit, chance

    public int worth(int set) {
        if (set < 0 || set > SET_MOST || noSystem()) {
            return WRONG;
        }
        return worthOf(set);
    }

    public int share(int process, int what) {
        if (process < 2 || process > 1 + SHARERS || what < 0 || what > 1 || noSystem()) {
            return NO_SHARE;
        }
        for (int m = 0; m < worths.length; m++) {
            worths[m] = worthOf(ALWAYS | (m << 1));
        }
        int own = 1 << process - 2;
        int sum = 0;
        for (int m = 0; m < worths.length; m++) {
            int others = Integer.bitCount(m);
            if ((m & own) == 0 && others < ORDERS.length) {
                sum += ORDERS[others] * (worths[m | own] - worths[m]);
            }
        }
        return (int) lowestTerms(sum, ALL_ORDERS, what);
    }

    public int rests(int process, int other) {
        if (noPair(process, other) || noSystem()) {
            return WRONG;
        }
        int bits = 0;
        for (int pair = 0; pair < 4; pair++) {
            int x = pair & 1;
            int y = pair >> 1;
            boolean first = payOf(process, other, x, y, false) >= payOf(process, other, 1 - x, y, false);
            boolean second = payOf(process, other, x, y, true) >= payOf(process, other, x, 1 - y, true);
            if (first && second) {
                bits |= 1 << pair;
            }
        }
        return bits;
    }

    public int gets(int process, int other, int x, int y) {
        if (noPair(process, other) || x < 0 || x > 1 || y < 0 || y > 1 || noSystem()) {
            return WRONG;
        }
        return payOf(process, other, x, y, false);
    }

    public long chance(int process, int k, int what) {
        if (noProcess(process) || noChance(k, what)) {
            return WRONG;
        }
        return lowestTerms(weigh(k, bit(process)), tensOf(k), what);
    }

    public long mean(int k, int what) {
        if (noChance(k, what)) {
            return WRONG;
        }
        return lowestTerms(weigh(k, SET_MOST), tensOf(k), what);
    }

    // ---- acts, runs drawn, images

    public int does(int kind, int p, int h, int g) {
        if (noSystem() || kind < 0 || kind >= KINDS) {
            return WRONG;
        }
        if (!Code.fits(kind, 1, p) || !Code.fits(kind, 2, h) || !Code.fits(kind, 3, g)) {
            return WRONG;
        }
        if (story.acts >= ACTS_MOST) {
            return SPENT;
        }
        story.add(Code.pack(kind, p, h, g));
        story.acts++;
        return film.whyRefused(story.events() - 1);
    }

    public int undo() {
        if (noSystem()) {
            return WRONG;
        }
        if (story.acts == 0) {
            return SPENT;
        }
        story.acts--;
        forgetRuns();
        return story.acts;
    }

    public int anew() {
        if (noSystem()) {
            return WRONG;
        }
        int were = story.acts;
        story.acts = 0;
        forgetRuns();
        return were;
    }

    public int drawn(int seed, int what) {
        if (noSeed(seed) || what < 0 || what > 1 || noSystem()) {
            return WRONG;
        }
        int out = runDrawn(seed);
        return what == 0 ? out : Integer.bitCount(trial.living);
    }

    public int luck(int seed, int n, int process) {
        if (noSeed(seed) || n < 1 || n > LUCK_MOST || noProcess(process) || noSystem()) {
            return WRONG;
        }
        int times = 0;
        for (int i = 0; i < n; i++) {
            runDrawn((long) seed + i);
            if (trial.lives(process)) {
                times++;
            }
        }
        return times;
    }

    public int count(int what) {
        switch (what) {
            case 0:
                return story.law;
            case 1:
                return story.odds;
            case 2:
                return story.told;
            case 3:
                return story.acts;
            case 4:
                return story.lines;
            case 5:
                return tape.size;
            case 6:
                return rowsThere();
            default:
                return NONE;
        }
    }

    public int image(int k) {
        if (k < 0 || k >= IMAGES) {
            return WRONG;
        }
        images[k].become(story);
        images[k].kept = true;
        return 0;
    }

    public int back(int k) {
        if (k < 0 || k >= IMAGES) {
            return WRONG;
        }
        if (!images[k].kept) {
            return NOTHING;
        }
        story.become(images[k]);
        forgetRuns();
        return 0;
    }

    // ---- rows of numbers

    public int row(int slot, int width, int n) {
        if (noSlot(slot) || width < 0 || width >= WIDTHS || n > ROW_MOST) {
            return WRONG;
        }
        if (n < 0) {
            return BELOW_ZERO;
        }
        rows[slot].begin(width, n);
        return 0;
    }

    public int write(int slot, int i, long v) {
        if (noSlot(slot)) {
            return WRONG;
        }
        Row its = rows[slot];
        if (!its.there) {
            return NOTHING;
        }
        if (i < 0 || i >= its.size) {
            return BEYOND;
        }
        its.put(i, v);
        return 0;
    }

    public int paste(int slot, int i, int to, int k, int n) {
        if (noSlot(slot) || noSlot(to)) {
            return WRONG;
        }
        Row from = rows[slot];
        Row into = rows[to];
        if (!from.there || !into.there) {
            return NOTHING;
        }
        if (from.width != into.width) {
            return OTHER_WIDTH;
        }
        if (from.lacks(i, n) || into.lacks(k, n)) {
            return BEYOND;
        }
        System.arraycopy(from.numbers, i, into.numbers, k, n);
        return 0;
    }

    // ---- what the calls share

    private boolean noSystem() {
        return story.lines == 0;
    }

    private boolean noTick(int tick) {
        return noSystem() || tick < 0 || tick > story.events();
    }

    private static boolean noProcess(int process) {
        return process < 1 || process > PROCESSES;
    }

    private static boolean noHandle(int process, int handle) {
        return noProcess(process) || handle < 0 || handle >= HANDLES;
    }

    private static boolean noObject(int object) {
        return object < 0 || object >= OBJECTS;
    }

    private static boolean noSlot(int slot) {
        return slot < 0 || slot >= SLOTS;
    }

    private static boolean noSeed(int seed) {
        return seed < 0 || seed > SEED_MOST;
    }

    private static boolean noPair(int process, int other) {
        return process < 2 || noProcess(process) || other < 2 || noProcess(other) || process == other;
    }

    private boolean noPrecopy(int a, int e, int z) {
        return noTick(a) || noTick(z) || z <= a || e < 1 || e > PACE_MOST;
    }

    private boolean noChance(int k, int what) {
        return noSystem() || k < 0 || k > CHANCE_MOST || k > story.events() || what < 0 || what > 1;
    }

    private static int bit(int process) {
        return 1 << process - 1;
    }

    private int rowsThere() {
        int count = 0;
        for (int slot = 0; slot < SLOTS; slot++) {
            if (rows[slot].there) {
                count++;
            }
        }
        return count;
    }

    private void forgetRuns() {
        film.forget();
        forms.forget();
    }

    /** The first TICK, from one on, at which a PROCESS is alive, or is not. */
    private int firstTickOf(int process, boolean living, int from) {
        for (int t = from; t <= story.events(); t++) {
            if (film.at(t).lives(process) == living) {
                return t;
            }
        }
        return NONE;
    }

    /** All EVENTS but one (or none) by a LAW, in the trial's world: how many are refused. */
    private int runTrial(int left, int law) {
        trial.begin();
        int refusals = 0;
        for (int i = 0; i < story.events(); i++) {
            if (i != left && trial.act(story.code(i), law) != 0) {
                refusals++;
            }
        }
        return refusals;
    }

    private int lostBy(int law) {
        runTrial(NONE, law);
        plan.make(trial);
        return Integer.bitCount(plan.left);
    }

    /** Makes a SLOT's row what was seen: 0, or why it cannot be. */
    private int lookAt(int slot) {
        if (noSlot(slot) || noSystem()) {
            return WRONG;
        }
        if (!rows[slot].there) {
            return NOTHING;
        }
        return seen.learn(rows[slot], story.events()) ? 0 : WRONG;
    }

    /** Whether a run by a LAW, without one EVENT (or with all), is as was seen. */
    private boolean isAsSeen(int left, int law) {
        trial.begin();
        int next = seen.holdsFrom(0, 0, trial);
        for (int i = 0; i < story.events() && next >= 0 && next < seen.size; i++) {
            if (i != left) {
                trial.act(story.code(i), law);
            }
            next = seen.holdsFrom(next, i + 1, trial);
        }
        return next >= 0;
    }

    private int worthOf(int set) {
        trial.begin();
        int doing = set | 1;
        for (int i = 0; i < story.events(); i++) {
            int code = story.code(i);
            if ((doing & bit(Code.numberOf(code, 1))) != 0) {
                trial.act(code, story.law);
            }
        }
        return Integer.bitCount(trial.living);
    }

    /** What one of two gets, the first one or the other one, by their choices. */
    private int payOf(int process, int other, int x, int y, boolean ofOther) {
        trial.take(film.at(story.events()));
        int me = ofOther ? other : process;
        boolean lived = trial.lives(me);
        if (x == 1) {
            trial.act(Code.pack(EXIT, process, 0, 0), story.law);
        }
        if (y == 1) {
            trial.act(Code.pack(EXIT, other, 0, 0), story.law);
        }
        if ((ofOther ? y : x) == 1) {
            return lived ? 2 : 0;
        }
        return 3 * trial.countBelow(me);
    }

    /** How many of some are alive at the end, each way in which the last k EVENTS can go by its weight. */
    private long weigh(int k, int some) {
        int from = story.events() - k;
        long sum = 0;
        for (int outs = 0; outs < 1 << k; outs++) {
            long weight = 1;
            trial.take(film.at(from));
            for (int i = 0; i < k; i++) {
                if ((outs >> i & 1) != 0) {
                    weight *= story.odds;
                } else {
                    weight *= ODDS_MOST - story.odds;
                    trial.act(story.code(from + i), story.law);
                }
            }
            sum += weight * Integer.bitCount(trial.living & some);
        }
        return sum;
    }

    private static long tensOf(int k) {
        long power = 1;
        for (int i = 0; i < k; i++) {
            power *= ODDS_MOST;
        }
        return power;
    }

    /** A fraction in lowest terms: above (0) or below (1). */
    private static long lowestTerms(long above, long below, int what) {
        long a = Math.abs(above);
        long b = below;
        for (int i = 0; i < 200 && a != 0; i++) {
            long rest = b % a;
            b = a;
            a = rest;
        }
        if (b == 0) {
            return 0;
        }
        return (what == 0 ? above : below) / b;
    }

    /** A run drawn from a seed, in the trial's world: how many EVENTS are left out. */
    private int runDrawn(long seed) {
        trial.begin();
        long x = seed;
        int out = 0;
        for (int i = 0; i < story.events(); i++) {
            x = (1103515245L * x + 12345L) % 2147483648L;
            if (x / 65536 % ODDS_MOST < story.odds) {
                out++;
            } else {
                trial.act(story.code(i), story.law);
            }
        }
        return out;
    }

    /** The bytes fed. */
    private static final class Tape {
        final int[] signs = new int[TAPE_BYTES];
        int size;

        void put(int four) {
            for (int shift = 24; shift >= 0 && size < TAPE_BYTES; shift -= 8) {
                signs[size] = four >>> shift & 255;
                size++;
            }
        }

        /** The byte at a place; behind the end a blank, which ends any word or number. */
        int sign(int place) {
            return place >= 0 && place < size ? signs[place] : ' ';
        }
    }

    /** EVENTS as one number each: kind, then its up to three numbers. */
    private static final class Code {
        private static final int[] NUMBERS = {2, 1, 1, 2, 3, 3, 2, 3, 3, 2};
        private static final int AMOUNT_MOST = 30;

        static int pack(int kind, int p, int h, int g) {
            return kind | place(p, 1) | place(h, 2) | place(g, 3);
        }

        /** A number as it stands in its place; the last one has room for up to 30. */
        static int place(int number, int which) {
            return number << 4 * which;
        }

        static int kindOf(int code) {
            return code & 15;
        }

        static int numberOf(int code, int which) {
            return code >> 4 * which & (which == 3 ? 31 : 15);
        }

        static int numbersOf(int kind) {
            return kind >= 0 && kind < KINDS ? NUMBERS[kind] : 0;
        }

        /** The least that may stand as the first .. third number; 0 for one that the kind has not. */
        static int leastOf(int kind, int which) {
            if (which > numbersOf(kind)) {
                return 0;
            }
            return which == 1 || kind == FORK || isAmount(kind, which) ? 1 : 0;
        }

        static int mostOf(int kind, int which) {
            if (which > numbersOf(kind)) {
                return 0;
            }
            if (which == 1 || kind == FORK) {
                return PROCESSES;
            }
            return isAmount(kind, which) ? AMOUNT_MOST : HANDLES - 1;
        }

        private static boolean isAmount(int kind, int which) {
            return which == 3 && (kind == WRITE || kind == READ);
        }

        static boolean fits(int kind, int which, int number) {
            return number >= leastOf(kind, which) && number <= mostOf(kind, which);
        }

        static String wordOf(int kind) {
            switch (kind) {
                case FORK:
                    return "fork";
                case LEAD:
                    return "lead";
                case EXIT:
                    return "exit";
                case OPEN:
                    return "open";
                case PIPE:
                    return "pipe";
                case COPY:
                    return "copy";
                case CLOSE:
                    return "close";
                case WRITE:
                    return "write";
                case READ:
                    return "read";
                case TOUCH:
                    return "touch";
                default:
                    return "";
            }
        }
    }

    /** A SYSTEM with the acts behind it; without LINES there is none. */
    private static final class Story {
        final int[] codes = new int[EVENTS_MOST];
        int lines;
        int law;
        int odds;
        int told;
        int acts;
        boolean kept;

        int events() {
            return told + acts;
        }

        int code(int event) {
            return event >= 0 && event < EVENTS_MOST ? codes[event] : 0;
        }

        /** Puts an EVENT behind all; who calls it counts it as told or as an act. */
        void add(int code) {
            if (events() < EVENTS_MOST) {
                codes[events()] = code;
            }
        }

        void clear() {
            lines = 0;
            law = 0;
            odds = 0;
            told = 0;
            acts = 0;
        }

        void become(Story other) {
            System.arraycopy(other.codes, 0, codes, 0, EVENTS_MOST);
            lines = other.lines;
            law = other.law;
            odds = other.odds;
            told = other.told;
            acts = other.acts;
        }
    }

    /** Reads the TAPE, TOKEN by TOKEN, up to its first FAULT. */
    private static final class Reader {
        private static final int THE_END = 0;
        private static final int WORD = 1;
        private static final int NUMBER = 2;
        private static final int SEMICOLON = 3;
        private static final int STRANGE = 4;
        /** Above every bound; a longer number stays here. */
        private static final int HUGE = 1000;

        private final Tape tape;
        int fault;
        int place = NONE;
        private int token;
        private int start;
        private int stop;
        private int value;

        Reader(Tape tape) {
            this.tape = tape;
        }

        void readInto(Story draft) {
            draft.clear();
            fault = 0;
            place = NONE;
            stop = 0;
            step();
            for (int i = 0; i <= TAPE_BYTES && fault == 0 && token != THE_END; i++) {
                if (draft.lines == 0) {
                    readHead(draft);
                } else {
                    readEvent(draft);
                }
                draft.lines++;
            }
        }

        private void readHead(Story draft) {
            takeWord("system");
            takeWord("law");
            draft.law = takeNumber(0, LAWS - 1);
            takeWord("odds");
            draft.odds = takeNumber(0, ODDS_MOST);
            takeSemicolon();
        }

        private void readEvent(Story draft) {
            int code = kindTold();
            if (code < 0) {
                blame(1);
                return;
            }
            if (draft.told >= TOLD_MOST) {
                blame(3);
                return;
            }
            int its = code;
            step();
            for (int which = 1; which <= Code.numbersOf(its); which++) {
                code |= Code.place(takeNumber(Code.leastOf(its, which), Code.mostOf(its, which)), which);
            }
            takeSemicolon();
            draft.add(code);
            draft.told++;
        }

        private int kindTold() {
            for (int k = 0; k < KINDS; k++) {
                if (isWord(Code.wordOf(k))) {
                    return k;
                }
            }
            return NONE;
        }

        private int takeNumber(int least, int most) {
            int number = value;
            if (token != NUMBER) {
                blame(1);
            } else if (number < least || number > most) {
                blame(2);
            }
            step();
            return number;
        }

        private void takeWord(String word) {
            if (!isWord(word)) {
                blame(1);
            }
            step();
        }

        private void takeSemicolon() {
            if (token != SEMICOLON) {
                blame(1);
            }
            step();
        }

        /** The first FAULT stays: what follows it stands further behind. */
        private void blame(int what) {
            if (fault == 0) {
                fault = what;
                place = start;
            }
        }

        private boolean isWord(String word) {
            if (token != WORD || stop - start != word.length()) {
                return false;
            }
            for (int i = 0; i < word.length(); i++) {
                if (tape.sign(start + i) != word.charAt(i)) {
                    return false;
                }
            }
            return true;
        }

        private void step() {
            start = stop;
            while (start < tape.size && isBlank(tape.sign(start))) {
                start++;
            }
            stop = start;
            value = NONE;
            if (start >= tape.size) {
                token = THE_END;
            } else if (isLetter(tape.sign(start))) {
                stepWord();
            } else if (isDigit(tape.sign(start))) {
                stepNumber();
            } else {
                token = tape.sign(start) == ';' ? SEMICOLON : STRANGE;
                stop = start + 1;
            }
        }

        private void stepWord() {
            token = WORD;
            while (stop < tape.size && isLetter(tape.sign(stop))) {
                stop++;
            }
        }

        private void stepNumber() {
            token = NUMBER;
            value = 0;
            while (stop < tape.size && isDigit(tape.sign(stop))) {
                value = Math.min(HUGE, 10 * value + tape.sign(stop) - '0');
                stop++;
            }
        }

        private static boolean isBlank(int sign) {
            return sign == 32 || sign == 10;
        }

        private static boolean isLetter(int sign) {
            return sign >= 'a' && sign <= 'z';
        }

        private static boolean isDigit(int sign) {
            return sign >= '0' && sign <= '9';
        }
    }

    /** All processes, handles, objects and pages at one TICK of one run. */
    private static final class World {
        int living;
        int made;
        private int ever;
        final int[] parentOf = new int[PROCESSES + 1];
        final int[] sessionOf = new int[PROCESSES + 1];
        /** Pages that became DIRTY since the last clean(). */
        final int[] soiled = new int[PROCESSES + 1];
        private final int[] held = new int[(PROCESSES + 1) * HANDLES];
        final int[] sort = new int[OBJECTS];
        final int[] holders = new int[OBJECTS];
        /** Bytes of a PIPE, at its READ END's number; its WRITE END is the next one. */
        private final int[] queue = new int[OBJECTS];

        World() {
            begin();
        }

        void begin() {
            living = 1;
            ever = 1;
            made = 0;
            Arrays.fill(parentOf, 0);
            Arrays.fill(sessionOf, 0);
            sessionOf[1] = 1;
            Arrays.fill(soiled, 0);
            Arrays.fill(held, NONE);
            Arrays.fill(holders, 0);
        }

        void take(World other) {
            living = other.living;
            ever = other.ever;
            made = other.made;
            System.arraycopy(other.parentOf, 0, parentOf, 0, parentOf.length);
            System.arraycopy(other.sessionOf, 0, sessionOf, 0, sessionOf.length);
            System.arraycopy(other.soiled, 0, soiled, 0, soiled.length);
            System.arraycopy(other.held, 0, held, 0, held.length);
            System.arraycopy(other.sort, 0, sort, 0, sort.length);
            System.arraycopy(other.holders, 0, holders, 0, holders.length);
            System.arraycopy(other.queue, 0, queue, 0, queue.length);
        }

        void clean() {
            Arrays.fill(soiled, 0);
        }

        boolean lives(int process) {
            return process >= 1 && process <= PROCESSES && (living >> process - 1 & 1) != 0;
        }

        /** From whom a PROCESS hangs, NONE if it is not alive. */
        int hangsFrom(int process) {
            return lives(process) ? parentOf[process] : NONE;
        }

        int stepsUp(int process) {
            int steps = 0;
            int p = process;
            while (p > 0 && p <= PROCESSES && steps <= PROCESSES) {
                p = parentOf[p];
                steps++;
            }
            return steps;
        }

        /** Whether one hangs from another one, over others or not. */
        private boolean isBelow(int process, int above) {
            int p = process;
            for (int i = 0; i <= PROCESSES && p > 0 && p <= PROCESSES; i++) {
                p = parentOf[p];
                if (p == above) {
                    return true;
                }
            }
            return false;
        }

        int countBelow(int process) {
            int count = 0;
            for (int p = 1; p <= PROCESSES; p++) {
                if (lives(p) && isBelow(p, process)) {
                    count++;
                }
            }
            return count;
        }

        int objectOf(int process, int handle) {
            int i = process * HANDLES + handle;
            return i >= 0 && i < held.length ? held[i] : NONE;
        }

        /** PROCESSES that hold an OBJECT, as bits. */
        int holdersOf(int object) {
            int bits = 0;
            for (int i = HANDLES; i < held.length; i++) {
                if (held[i] == object) {
                    bits |= bit(i / HANDLES);
                }
            }
            return bits;
        }

        /** Bytes in the PIPE of an END, NONE if there is no such PIPE, or it is gone. */
        int bytesOf(int object) {
            int in = readEndOf(object);
            if (in < 0 || holders[in] + holders[in + 1] == 0) {
                return NONE;
            }
            return queue[in];
        }

        private int readEndOf(int object) {
            if (object < 0 || object >= made) {
                return NONE;
            }
            if (sort[object] == READ_END && object + 1 < made) {
                return object;
            }
            return sort[object] == WRITE_END && object > 0 ? object - 1 : NONE;
        }

        /** The other END of a PIPE. */
        int otherEnd(int object) {
            int in = readEndOf(object);
            if (in < 0) {
                return NONE;
            }
            return in == object ? in + 1 : in;
        }

        /** One EVENT by a LAW: why it is REFUSED, or 0 when it is done. */
        int act(int code, int law) {
            int its = Code.kindOf(code);
            int p = Code.numberOf(code, 1);
            int h = Code.numberOf(code, 2);
            int g = Code.numberOf(code, 3);
            if (!lives(p)) {
                return 1;
            }
            switch (its) {
                case FORK:
                    return fork(p, h);
                case LEAD:
                    return lead(p);
                case EXIT:
                    return exit(p, law);
                case OPEN:
                    return open(p, h);
                case PIPE:
                    return pipe(p, h, g);
                case COPY:
                    return copy(p, h, g);
                case CLOSE:
                    return close(p, h);
                case WRITE:
                    return pour(objectOf(p, h), g);
                case READ:
                    return drain(objectOf(p, h), g);
                default:
                    soiled[p] |= 1 << h;
                    return 0;
            }
        }

        private int fork(int p, int child) {
            if (child < 1 || child > PROCESSES || (ever & bit(child)) != 0) {
                return 2;
            }
            living |= bit(child);
            ever |= bit(child);
            parentOf[child] = p;
            sessionOf[child] = sessionOf[p];
            soiled[child] = (1 << PAGES) - 1;
            for (int h = 0; h < HANDLES; h++) {
                hold(child, h, objectOf(p, h));
            }
            return 0;
        }

        private int lead(int p) {
            if (sessionOf[p] == p) {
                return 2;
            }
            sessionOf[p] = p;
            return 0;
        }

        private int exit(int p, int law) {
            if (p == 1) {
                return 2;
            }
            living &= ~bit(p);
            for (int h = 0; h < HANDLES; h++) {
                hold(p, h, NONE);
            }
            int least = 0;
            for (int c = 1; c <= PROCESSES; c++) {
                if (hangsFrom(c) == p) {
                    parentOf[c] = newParent(c, parentOf[p], least, law);
                    least = least == 0 ? c : least;
                }
            }
            return 0;
        }

        /** From whom one hangs whose parent is gone; least is the first such one, 0 for itself. */
        private int newParent(int child, int above, int least, int law) {
            if (law == 1) {
                return above;
            }
            if (law == 3) {
                return least == 0 ? above : least;
            }
            if (law == 2) {
                int leader = sessionOf[child];
                boolean can = lives(leader) && leader != child && !isBelow(leader, child);
                return can ? leader : 1;
            }
            return 1;
        }

        private int open(int p, int h) {
            if (objectOf(p, h) >= 0) {
                return 3;
            }
            hold(p, h, newObject(FILE));
            return 0;
        }

        private int pipe(int p, int h, int g) {
            if (h == g || objectOf(p, h) >= 0 || objectOf(p, g) >= 0) {
                return 3;
            }
            hold(p, h, newObject(READ_END));
            hold(p, g, newObject(WRITE_END));
            return 0;
        }

        private int copy(int p, int h, int g) {
            if (objectOf(p, h) < 0 || objectOf(p, g) >= 0) {
                return 3;
            }
            hold(p, g, objectOf(p, h));
            return 0;
        }

        private int close(int p, int h) {
            if (objectOf(p, h) < 0) {
                return 3;
            }
            hold(p, h, NONE);
            return 0;
        }

        private int pour(int object, int n) {
            if (object < 0) {
                return 3;
            }
            int in = readEndOf(object);
            if (in < 0 || in == object) {
                return 4;
            }
            if (holders[in] == 0) {
                return 5;
            }
            if (queue[in] + n > PIPE_BYTES) {
                return 6;
            }
            queue[in] += n;
            return 0;
        }

        private int drain(int object, int n) {
            if (object < 0) {
                return 3;
            }
            int in = readEndOf(object);
            if (in < 0 || in != object) {
                return 4;
            }
            if (queue[in] < n && holders[in + 1] > 0) {
                return 5;
            }
            queue[in] -= Math.min(n, queue[in]);
            return 0;
        }

        private int newObject(int its) {
            if (made >= OBJECTS) {
                return NONE;
            }
            sort[made] = its;
            queue[made] = 0;
            made++;
            return made - 1;
        }

        /** A HANDLE holds an OBJECT, or NONE, in place of what it held. */
        private void hold(int process, int handle, int object) {
            int i = process * HANDLES + handle;
            if (i < 0 || i >= held.length) {
                return;
            }
            if (held[i] >= 0 && held[i] < OBJECTS) {
                holders[held[i]]--;
            }
            held[i] = object;
            if (object >= 0 && object < OBJECTS) {
                holders[object]++;
            }
        }
    }

    /** The run as told and acted, wound to any TICK. */
    private static final class Film {
        private final Story story;
        private final World world = new World();
        private final int[] why = new int[EVENTS_MOST];
        private int tick;
        int copiedInRound;
        int copiedInAll;
        int copiedLast;

        Film(Story story) {
            this.story = story;
        }

        void forget() {
            world.begin();
            tick = 0;
        }

        World at(int wanted) {
            if (wanted < tick) {
                forget();
            }
            while (tick < wanted && tick < EVENTS_MOST) {
                why[tick] = world.act(story.code(tick), story.law);
                tick++;
            }
            return world;
        }

        /** Why an EVENT is refused; a run that is past it is not wound back for that. */
        int whyRefused(int event) {
            if (event < 0 || event >= EVENTS_MOST) {
                return 0;
            }
            at(Math.max(tick, event + 1));
            return why[event];
        }

        int refusedBefore(int wanted) {
            at(Math.max(tick, wanted));
            int count = 0;
            for (int i = 0; i < wanted && i < EVENTS_MOST; i++) {
                if (why[i] != 0) {
                    count++;
                }
            }
            return count;
        }

        /** Pages copied from a to z each e TICKS: in one ROUND, in all, in the last. */
        void precopy(int a, int e, int z, int round) {
            at(a).clean();
            int mark = a;
            copiedLast = PAGES * Integer.bitCount(world.living);
            copiedInAll = copiedLast;
            copiedInRound = round == 0 ? copiedLast : NONE;
            for (int r = 1; r <= EVENTS_MOST && mark < z; r++) {
                mark = Math.min(mark + e, z);
                at(mark);
                copiedLast = soiledPages();
                world.clean();
                copiedInAll += copiedLast;
                if (r == round) {
                    copiedInRound = copiedLast;
                }
            }
        }

        private int soiledPages() {
            int count = 0;
            for (int p = 1; p <= PROCESSES; p++) {
                if (world.lives(p)) {
                    count += Integer.bitCount(world.soiled[p]);
                }
            }
            return count;
        }
    }

    /**
     * LABELS of one TICK and SHAPES of all. A SHAPE is a row of numbers: one for each PROCESS (from whom
     * it hangs 4 bits, session 4, eight LABELS and 1 of 7), then one for four LABELS each (kind and 1,
     * bytes, LABEL of the other END and 1, in 16 bits).
     */
    private static final class Shapes {
        private static final int LABELS_MOST = PROCESSES * HANDLES;
        private static final int LENGTH = PROCESSES + LABELS_MOST / 4;

        private final Film film;
        private final Story story;
        private final int[] labels = new int[OBJECTS];
        private final int[] met = new int[LABELS_MOST];
        private int size;
        private final long[][] pictures = new long[EVENTS_MOST + 1][LENGTH];
        private final int[] first = new int[EVENTS_MOST + 1];
        private final int[] times = new int[EVENTS_MOST + 1];
        private int known;

        Shapes(Film film, Story story) {
            this.film = film;
            this.story = story;
        }

        void forget() {
            known = 0;
        }

        void giveLabels(World world) {
            Arrays.fill(labels, NONE);
            size = 0;
            for (int p = 1; p <= PROCESSES; p++) {
                for (int h = 0; h < HANDLES; h++) {
                    int object = world.objectOf(p, h);
                    if (object >= 0 && object < OBJECTS && labels[object] < 0) {
                        labels[object] = size;
                        met[size] = object;
                        size++;
                    }
                }
            }
        }

        int labelOf(int object) {
            return object >= 0 && object < OBJECTS ? labels[object] : NONE;
        }

        /** The first TICK that is ALIKE to one. */
        int firstLike(int tick) {
            return tick >= 0 && tick < first.length ? first[tick] : NONE;
        }

        int mostSeen() {
            Arrays.fill(times, 0);
            for (int t = 0; t < known; t++) {
                times[first[t]]++;
            }
            int best = 0;
            for (int t = 1; t < known; t++) {
                if (times[t] > times[best]) {
                    best = t;
                }
            }
            return best;
        }

        /** Draws the SHAPES of the TICKS that came since; ahead of each question about SHAPES. */
        void learn() {
            while (known <= story.events() && known <= EVENTS_MOST) {
                draw(film.at(known), pictures[known]);
                int like = 0;
                while (like < known && (first[like] != like || !areSame(pictures[like], pictures[known]))) {
                    like++;
                }
                first[known] = like;
                known++;
            }
        }

        private static boolean areSame(long[] one, long[] other) {
            for (int i = 0; i < LENGTH; i++) {
                if (one[i] != other[i]) {
                    return false;
                }
            }
            return true;
        }

        private void draw(World world, long[] shape) {
            giveLabels(world);
            Arrays.fill(shape, 0L);
            for (int p = 1; p <= PROCESSES; p++) {
                if (world.lives(p)) {
                    shape[p - 1] = drawProcess(world, p);
                }
            }
            for (int l = 0; l < size; l++) {
                shape[PROCESSES + l / 4] |= drawObject(world, met[l]) << 16 * (l % 4);
            }
        }

        private long drawProcess(World world, int process) {
            long bits = 0;
            for (int h = HANDLES - 1; h >= 0; h--) {
                bits = (bits << 7) | (labelOf(world.objectOf(process, h)) + 1);
            }
            return (bits << 8) | (world.sessionOf[process] << 4) | world.parentOf[process];
        }

        private long drawObject(World world, int object) {
            long its = world.sort[object] + 1;
            if (its == FILE + 1) {
                return its;
            }
            int other = labelOf(world.otherEnd(object)) + 1;
            return its | (world.bytesOf(object) << 2) | (other << 8);
        }
    }

    /** The plan that raises what is alive. */
    private static final class Plan {
        /** HOW each PROCESS is raised, 0 if it is not. */
        final int[] way = new int[PROCESSES + 1];
        final int[] order = new int[PROCESSES];
        int size;
        int left;

        void make(World world) {
            Arrays.fill(way, 0);
            size = 0;
            left = world.living;
            raise(1, 1);
            for (int i = 1; i < PROCESSES; i++) {
                raiseNext(world);
            }
        }

        int countBy(int how) {
            int count = 0;
            for (int p = 1; p <= PROCESSES; p++) {
                if (way[p] == how) {
                    count++;
                }
            }
            return count;
        }

        private void raise(int process, int how) {
            if (size < order.length) {
                way[process] = how;
                order[size] = process;
                size++;
                left &= ~bit(process);
            }
        }

        private void raiseNext(World world) {
            for (int p = 2; p <= PROCESSES; p++) {
                int how = (left & bit(p)) != 0 ? wayFor(world, p) : 0;
                if (how != 0) {
                    raise(p, how);
                    return;
                }
            }
        }

        private int wayFor(World world, int process) {
            int parent = world.parentOf[process];
            int session = world.sessionOf[process];
            if (way[parent] == 0) {
                return 0;
            }
            if (session == process) {
                return 1;
            }
            if (session == world.sessionOf[parent]) {
                return 2;
            }
            if (parent == 1) {
                return way[session] != 0 ? 4 : 0;
            }
            return way[parent] == 1 && session == world.sessionOf[world.parentOf[parent]] ? 3 : 0;
        }
    }

    /** A SLOT's row of numbers, each cut to the row's WIDTH. */
    private static final class Row {
        final long[] numbers = new long[ROW_MOST];
        boolean there;
        int width;
        int size;

        void begin(int newWidth, int n) {
            Arrays.fill(numbers, 0L);
            there = true;
            width = newWidth;
            size = n;
        }

        void put(int i, long v) {
            if (i >= 0 && i < size) {
                numbers[i] = cut(v);
            }
        }

        private long cut(long v) {
            switch (width) {
                case 0:
                    return (byte) v;
                case 1:
                    return (short) v;
                case 2:
                    return (int) v;
                default:
                    return v;
            }
        }

        /** Whether n numbers from a place on are not all there. */
        boolean lacks(int place, int n) {
            return place < 0 || n < 0 || (long) place + n > size;
        }
    }

    /** What was seen, told by a row, in the order of TICKS. */
    private static final class Seen {
        private static final int MOST = ROW_MOST / 3;

        private final int[] ticks = new int[MOST];
        private final int[] processes = new int[MOST];
        private final int[] parents = new int[MOST];
        int size;

        /** Takes what a row tells; false if it tells what is none such. */
        boolean learn(Row row, int lastTick) {
            size = 0;
            if (row.size % 3 != 0) {
                return false;
            }
            for (int i = 0; i + 2 < row.size; i += 3) {
                long tick = row.numbers[i];
                long process = row.numbers[i + 1];
                long from = row.numbers[i + 2];
                if (tick < 0 || tick > lastTick || process < 1 || process > PROCESSES) {
                    return false;
                }
                if (from < -1 || from > PROCESSES) {
                    return false;
                }
                insert((int) tick, (int) process, (int) from);
            }
            return true;
        }

        private void insert(int tick, int process, int from) {
            if (size >= MOST) {
                return;
            }
            int i = size;
            while (i > 0 && ticks[i - 1] > tick) {
                ticks[i] = ticks[i - 1];
                processes[i] = processes[i - 1];
                parents[i] = parents[i - 1];
                i--;
            }
            ticks[i] = tick;
            processes[i] = process;
            parents[i] = from;
            size++;
        }

        /** The first one, from one on, that is of a later TICK; NONE if one of this TICK does not hold. */
        int holdsFrom(int from, int tick, World world) {
            int i = from;
            while (i >= 0 && i < size && ticks[i] == tick) {
                if (world.hangsFrom(processes[i]) != parents[i]) {
                    return NONE;
                }
                i++;
            }
            return i;
        }
    }
}
