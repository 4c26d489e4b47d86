import java.util.Arrays;
import java.util.NoSuchElementException;

/**
 * A house that tells nets shorter: posts put into boxes, words that say many ties at once, excepts
 * told or left out, lengths in bits. The promises are in ../shared/DOC.md.
 */
public final class ToldNet {
    public static final int NONE = -1;

    private static final int REFUSED = -2;
    private static final int NO_SPARE = -100000;
    private static final int MOST_POSTS = 16;
    private static final int MOST_PAIRS = 120;
    private static final int LAST_DAY = 40;
    private static final int MOST_CHANGES = 300;
    private static final int MOST_TELLINGS = 5;
    private static final int MOST_SMALL = 8;
    private static final int MOST_LOTS = 40;

    private static final int CROWD = 0;
    private static final int SIDES = 1;
    private static final int STAR = 2;
    private static final int CHAIN = 3;

    private static final int LEAST = 0;
    private static final int MOST = 1;
    private static final int MEAN = 2;
    private static final int OFF = 3;

    private final Days days = new Days();
    private final Tape tape = new Tape();
    private final Text text = new Text();
    private final Telling[] tellings = new Telling[MOST_TELLINGS];
    private int told = 0;
    private int latestPlace = NONE;
    private final Rule rule = new Rule();
    private final Search search = new Search();
    private final Sorts sorts = new Sorts();
    private final Reader asker = new Reader();
    private final Order order = new Order();
    private final Telling draft = new Telling();
    private final Parting parts = new Parting();
    private final Net scratch = new Net();

    public ToldNet() {
        for (int i = 0; i < MOST_TELLINGS; i++) {
            tellings[i] = new Telling();
        }
    }

    public int feed(int a, int b, int c, int d, int e) {
        if (tape.size + 20 > Tape.MOST_BYTES) {
            return NONE;
        }
        tape.put(a);
        tape.put(b);
        tape.put(c);
        tape.put(d);
        tape.put(e);
        return tape.size;
    }

    public int back(int n) {
        if (n < 0 || n > tape.size) {
            return NONE;
        }
        tape.size -= n;
        return tape.size;
    }

    public boolean net(int n) {
        if (n < 2 || n > MOST_POSTS) {
            return false;
        }
        days.begin(n);
        told = 0;
        asker.questions = 0;
        return true;
    }

    public int tie(int a, int b, boolean is) {
        if (!days.isPair(a, b) || days.changes >= MOST_CHANGES || days.now().joins(a, b) == is) {
            return NONE;
        }
        days.now().flip(a, b);
        days.changes++;
        return days.changes - 1;
    }

    public int tomorrow() {
        if (days.today >= LAST_DAY) {
            return NONE;
        }
        days.goOn();
        return days.today;
    }

    public boolean mark(int post, int v) {
        if (!days.isPost(post) || v < 0 || v > 3) {
            return false;
        }
        days.marks[post] = v;
        return true;
    }

    public int ties(int post, int day) {
        Net then = days.on(day);
        if (then == null || !days.isPost(post)) {
            return NONE;
        }
        return Integer.bitCount(then.rows[post]);
    }

    public int tied(int a, int b, int day) {
        Net then = days.on(day);
        if (then == null || !days.isPair(a, b)) {
            return NONE;
        }
        return then.joins(a, b) ? 1 : 0;
    }

    public int read() {
        if (told >= MOST_TELLINGS) {
            return REFUSED;
        }
        tape.scan();
        int fault = tape.fault;
        latestPlace = tape.place;
        if (fault == 0) {
            text.understand(tape, days.posts);
            fault = text.fault;
            latestPlace = text.place;
        }
        tape.size = 0;
        if (fault == 0) {
            text.write(tellings[told]);
            told++;
        }
        return fault;
    }

    public int place() {
        return latestPlace;
    }

    public int make(int how) {
        if (told >= MOST_TELLINGS || how < 0 || how > 4 || how == 3 && days.posts > MOST_SMALL) {
            return NONE;
        }
        Telling made = tellings[told];
        if (how == 0) {
            made.parting.setAlone(days.posts);
        } else if (how == 1) {
            made.parting.setWhole(days.posts);
        } else if (how == 2) {
            search.partByRule(days.now(), made.parting);
        } else if (how == 3) {
            search.partLeast(days.now(), made.parting);
        } else {
            made.parting.refine(days.now(), days.marks);
        }
        rule.tell(days.now(), made);
        told++;
        return told - 1;
    }

    public int copy(int t) {
        Telling source = find(t);
        if (source == null || told >= MOST_TELLINGS) {
            return NONE;
        }
        tellings[told].become(source);
        told++;
        return told - 1;
    }

    public int drop() {
        if (told == 0) {
            return NONE;
        }
        told--;
        return told;
    }

    public int length(int t) {
        Telling telling = find(t);
        return telling == null ? NONE : sorts.measure(telling);
    }

    public int box(int t, int post) {
        Telling telling = find(t);
        if (telling == null || !days.isPost(post)) {
            return NONE;
        }
        return telling.parting.box[post];
    }

    public int row(int t, int box, int i) {
        Telling telling = find(t);
        if (telling == null || !telling.parting.isBox(box) || i < 0 || i >= telling.parting.sizeOf(box)) {
            return NONE;
        }
        return telling.row[telling.parting.startOf(box) + i];
    }

    public int word(int t, int k, int what) throws NoSuchElementException, IllegalArgumentException {
        Telling telling = find(t);
        if (telling == null || k < 0 || k >= telling.wordCount) {
            throw new NoSuchElementException("no such telling or word");
        }
        if (what < 0 || what > 2) {
            throw new IllegalArgumentException("no such what");
        }
        int word = telling.words[k];
        int kind = Telling.kindOf(word);
        if (what == 0) {
            return kind;
        }
        if (what == 1) {
            return Telling.firstOf(word);
        }
        return kind == SIDES || kind == STAR ? Telling.secondOf(word) : NONE;
    }

    public int except(int t, int k, int what) throws NoSuchElementException, IllegalArgumentException {
        Telling telling = find(t);
        int pair = telling == null ? NONE : telling.excepts.pairAt(k);
        if (telling == null || pair == NONE) {
            throw new NoSuchElementException("no such telling or except");
        }
        if (what < 0 || what > 3) {
            throw new IllegalArgumentException("no such what");
        }
        int a = Net.lesserOf(pair);
        int b = Net.otherOf(pair);
        if (what == 0) {
            return a;
        }
        if (what == 1) {
            return b;
        }
        if (what == 2) {
            return telling.said.joins(a, b) ? 1 : 0;
        }
        return telling.isLeft(pair) ? 1 : 0;
    }

    public int built(int t, int a, int b) {
        Telling telling = find(t);
        if (telling == null || !days.isPair(a, b)) {
            return NONE;
        }
        return telling.said.joins(a, b) != telling.excepts.joins(a, b) ? 1 : 0;
    }

    public int unlike(int t, int day) {
        Telling telling = find(t);
        Net then = days.on(day);
        if (telling == null || then == null) {
            return NONE;
        }
        telling.build(scratch);
        scratch.differ(scratch, then);
        return scratch.pairs();
    }

    public int together(int t, int box, int other) {
        Telling telling = find(t);
        if (telling == null || !telling.parting.isBox(box) || !telling.parting.isBox(other) || box == other) {
            return NONE;
        }
        telling.build(scratch);
        telling.parting.join(box, other);
        return rule.tell(scratch, telling);
    }

    public int apart(int t, int post) {
        Telling telling = find(t);
        if (telling == null || !days.isPost(post) || telling.parting.isAlone(post)) {
            return NONE;
        }
        telling.build(scratch);
        telling.parting.lift(post);
        return rule.tell(scratch, telling);
    }

    public int bound() {
        return search.boundBelow(days.now());
    }

    public int bests() {
        return days.posts > MOST_SMALL ? NONE : search.partLeast(days.now(), parts);
    }

    public boolean leave(int t, int except, boolean out) {
        Telling telling = find(t);
        int pair = telling == null ? NONE : telling.excepts.pairAt(except);
        if (telling == null || pair == NONE) {
            return false;
        }
        telling.setLeft(pair, out);
        return true;
    }

    public int sort(int t, int a, int b, boolean said, int what) {
        Telling telling = find(t);
        if (telling == null || !days.isPair(a, b) || what < 0 || what > 1) {
            return NONE;
        }
        sorts.take(telling);
        int place = Sorts.placeOf(telling, a, b, said);
        return what == 0 ? sorts.free[place] : sorts.gone[place];
    }

    public int ask(int t, int kind, int a, int b, boolean most) {
        Telling telling = find(t);
        if (telling == null || !days.isQuestion(kind, a, b)) {
            return NONE;
        }
        sorts.take(telling);
        return sorts.answer(telling, kind, a, b, most ? MOST : LEAST);
    }

    public int mean(int t, int kind, int a, int b) {
        Telling telling = find(t);
        if (telling == null || !days.isQuestion(kind, a, b) || kind > 2) {
            return NONE;
        }
        sorts.take(telling);
        return sorts.answer(telling, kind, a, b, MEAN);
    }

    public int leads(int t, int kind, int a, int b) {
        Telling telling = find(t);
        if (telling == null || !days.isQuestion(kind, a, b)) {
            return NONE;
        }
        sorts.followLeads(telling, kind, a, b);
        return sorts.leadCount;
    }

    public int led(int t, int kind, int a, int b, int i) {
        Telling telling = find(t);
        if (telling == null || !days.isQuestion(kind, a, b)) {
            return NONE;
        }
        sorts.followLeads(telling, kind, a, b);
        return i < 0 || i >= sorts.leadCount ? NONE : sorts.lead[i];
    }

    public int reader(int kind, int a, int b, int weight) {
        if (!days.isQuestion(kind, a, b) || weight < 1 || weight > 9) {
            return NONE;
        }
        return asker.add(kind, a, b, weight);
    }

    public int harm(int t) {
        Telling telling = find(t);
        if (telling == null) {
            return NONE;
        }
        sorts.take(telling);
        return asker.harmBy(telling, sorts);
    }

    public int serve(int t, int length) {
        Telling telling = find(t);
        if (telling == null) {
            return NONE;
        }
        return asker.begin(telling) ? asker.serveBest(telling, sorts, length) : asker.serveSteps(telling, sorts, length);
    }

    public int rounds() {
        return parts.refine(days.now(), days.marks);
    }

    public int coarsest(int post) {
        if (!days.isPost(post)) {
            return NONE;
        }
        parts.refine(days.now(), days.marks);
        return parts.box[post];
    }

    public int nearly(int k, int post) {
        if (!days.isPost(post) || k < 0 || k > 14) {
            return NONE;
        }
        parts.group(days.now(), days.marks, k);
        return parts.box[post];
    }

    public int mend(int t) {
        Telling telling = find(t);
        if (telling == null) {
            return NONE;
        }
        Net today = days.now();
        telling.build(scratch);
        scratch.differ(scratch, today);
        int unlike = scratch.pairs();
        telling.correct(today);
        search.partByRule(today, draft.parting);
        if (rule.tell(today, draft) < telling.plainLength()) {
            telling.become(draft);
            return 2;
        }
        return unlike == 0 ? 0 : 1;
    }

    public int broken(int t, int u) {
        Telling first = find(t);
        Telling second = find(u);
        return first == null || second == null ? NONE : first.countBroken(second);
    }

    public int line(int t) {
        Telling telling = find(t);
        if (telling == null) {
            return NONE;
        }
        return telling.parting.boxes > MOST_SMALL ? REFUSED : order.lay(telling);
    }

    public int at(int t, int i) {
        Telling telling = find(t);
        if (telling == null || telling.parting.boxes > MOST_SMALL || i < 0 || i >= telling.parting.boxes) {
            return NONE;
        }
        order.lay(telling);
        return order.boxAt(telling, i);
    }

    public int sentence(int t, int i) {
        Telling telling = find(t);
        if (telling == null || i < 0 || i >= telling.wordCount) {
            return NONE;
        }
        order.speak(telling, i);
        return order.word;
    }

    public int spares(int t, int i) {
        Telling telling = find(t);
        if (telling == null || i < 0 || i >= telling.wordCount) {
            return NO_SPARE;
        }
        order.speak(telling, i);
        return order.spare;
    }

    public int compare(int day, int other, int what) {
        Net first = days.on(day);
        Net second = days.on(other);
        if (first == null || second == null || what < 0 || what > 2) {
            return NONE;
        }
        int both = first.pairsIn(second);
        if (what == 0) {
            return both;
        }
        return (what == 1 ? first.pairs() : second.pairs()) - both;
    }

    public int odds(int t, int seed, int k) {
        Telling telling = find(t);
        if (telling == null || k < 1 || k > MOST_LOTS) {
            return NONE;
        }
        draft.parting.become(telling.parting);
        int own = rule.tell(days.now(), draft);
        int count = 0;
        for (int i = 0; i < k; i++) {
            scratch.shuffle(days.now(), seed + i);
            if (rule.tell(scratch, draft) <= own) {
                count++;
            }
        }
        return count;
    }

    public int chance(int seed, int a, int b) {
        if (!days.isPair(a, b)) {
            return NONE;
        }
        scratch.shuffle(days.now(), seed);
        return scratch.joins(a, b) ? 1 : 0;
    }

    public int count(int what) {
        switch (what) {
            case 0:
                return days.posts;
            case 1:
                return days.now().pairs();
            case 2:
                return days.today;
            case 3:
                return days.changes;
            case 4:
                return told;
            case 5:
                return asker.questions;
            case 6:
                return tape.size;
            default:
                return countIn(what);
        }
    }

    private int countIn(int what) {
        if (what < 10 || what > 39) {
            return NONE;
        }
        Telling telling = find(what % 10);
        if (telling == null) {
            return NONE;
        }
        if (what < 20) {
            return telling.parting.boxes;
        }
        return what < 30 ? telling.wordCount : telling.excepts.pairs();
    }

    private Telling find(int t) {
        return t < 0 || t >= told ? null : tellings[t];
    }

    /** B(k): the bits that tell one of k. */
    private static int bits(int k) {
        int b = 1;
        while (b < 30 && 1 << b < k) {
            b++;
        }
        return b;
    }

    /** E: the bits of an except that is told. */
    private static int exceptBits(int posts) {
        return 2 + 2 * bits(posts);
    }

    /** The least post of a set that has one. */
    private static int leastOf(int set) {
        return Integer.bitCount((set & -set) - 1);
    }

    /** A set of pairs of posts: row a has bit b, and row b bit a, if the pair a b is in it. */
    private static final class Net {
        final int[] rows = new int[MOST_POSTS];
        int posts = 2;

        void clear(int n) {
            posts = n;
            Arrays.fill(rows, 0);
        }

        void become(Net other) {
            posts = other.posts;
            System.arraycopy(other.rows, 0, rows, 0, MOST_POSTS);
        }

        /** Becomes the pairs that are in just one of two sets. */
        void differ(Net one, Net other) {
            posts = one.posts;
            for (int p = 0; p < MOST_POSTS; p++) {
                rows[p] = one.rows[p] ^ other.rows[p];
            }
        }

        boolean joins(int a, int b) {
            return (rows[a] >> b & 1) == 1;
        }

        void flip(int a, int b) {
            rows[a] ^= 1 << b;
            rows[b] ^= 1 << a;
        }

        /** All pairs of one post of the ones and another one of the others come in. */
        void cross(int ones, int others) {
            for (int p = 0; p < posts; p++) {
                int bit = 1 << p;
                if ((ones & bit) != 0) {
                    rows[p] |= others & ~bit;
                }
                if ((others & bit) != 0) {
                    rows[p] |= ones & ~bit;
                }
            }
        }

        /** The pairs of posts beside one another in a part of a row come in; NONE in it is no post. */
        void chain(int[] row, int from, int size) {
            for (int i = from; i < from + size - 1 && i + 1 < row.length; i++) {
                int p = row[i];
                int q = row[i + 1];
                if (p != NONE && q != NONE && p != q) {
                    rows[p] |= 1 << q;
                    rows[q] |= 1 << p;
                }
            }
        }

        int pairs() {
            int twice = 0;
            for (int p = 0; p < posts; p++) {
                twice += Integer.bitCount(rows[p]);
            }
            return twice / 2;
        }

        int pairsIn(Net other) {
            int twice = 0;
            for (int p = 0; p < posts; p++) {
                twice += Integer.bitCount(rows[p] & other.rows[p]);
            }
            return twice / 2;
        }

        /** The k-th pair, by the lesser post, then the other, as one number; NONE: not so many. */
        int pairAt(int k) {
            if (k < 0) {
                return NONE;
            }
            int before = k;
            for (int a = 0; a < posts; a++) {
                int higher = rows[a] & -1 << a;
                int count = Integer.bitCount(higher);
                if (before < count) {
                    return a * MOST_POSTS + bitAt(higher, before);
                }
                before -= count;
            }
            return NONE;
        }

        private static int bitAt(int set, int k) {
            int rest = set;
            for (int i = 0; i < k; i++) {
                rest &= rest - 1;
            }
            return leastOf(rest);
        }

        static int lesserOf(int pair) {
            return pair / MOST_POSTS;
        }

        static int otherOf(int pair) {
            return pair % MOST_POSTS;
        }

        /** Becomes the net that chance makes of another one by a seed. */
        void shuffle(Net from, int seed) {
            become(from);
            int count = pairs();
            for (int k = 0; k < 4 * count; k++) {
                int one = pairAt(lot(seed, 2 * k, count));
                int half = lot(seed, 2 * k + 1, 2 * count);
                int two = pairAt(half / 2);
                if (one != NONE && two != NONE) {
                    boolean turned = half % 2 == 1;
                    int c = turned ? otherOf(two) : lesserOf(two);
                    int d = turned ? lesserOf(two) : otherOf(two);
                    swap(lesserOf(one), otherOf(one), c, d);
                }
            }
        }

        private void swap(int a, int b, int c, int d) {
            boolean four = a != c && a != d && b != c && b != d;
            if (four && !joins(a, d) && !joins(c, b)) {
                flip(a, b);
                flip(c, d);
                flip(a, d);
                flip(c, b);
            }
        }

        private static int lot(int seed, int which, int n) {
            int h = mix(mix(seed, 5), which);
            return n < 1 ? 0 : (h >>> 1) % n;
        }

        private static int mix(int h, int it) {
            int mixed = (h ^ it) * 1103515245 + 12345;
            return mixed ^ mixed >>> 15;
        }
    }

    /** The net of each day up to today, and the marks of its posts. */
    private static final class Days {
        final int[] marks = new int[MOST_POSTS];
        private final Net[] nets = new Net[LAST_DAY + 1];
        int posts;
        int today;
        int changes;

        Days() {
            for (int day = 0; day <= LAST_DAY; day++) {
                nets[day] = new Net();
            }
            begin(2);
        }

        void begin(int n) {
            posts = n;
            today = 0;
            changes = 0;
            nets[0].clear(n);
            Arrays.fill(marks, 0);
        }

        void goOn() {
            nets[today + 1].become(nets[today]);
            today++;
        }

        Net now() {
            return nets[today];
        }

        Net on(int day) {
            return day < 0 || day > today ? null : nets[day];
        }

        boolean isPost(int post) {
            return post >= 0 && post < posts;
        }

        boolean isPair(int a, int b) {
            return isPost(a) && isPost(b) && a != b;
        }

        boolean isQuestion(int kind, int a, int b) {
            switch (kind) {
                case Sorts.TIED:
                case Sorts.FAR:
                case Sorts.PATHS:
                    return isPair(a, b);
                case Sorts.TIES:
                case Sorts.TRIOS:
                    return isPost(a);
                case Sorts.CUT:
                    return a >= 0 && a < 1 << posts;
                default:
                    return false;
            }
        }
    }

    /** Posts put into boxes, which are numbered by their least posts. */
    private static final class Parting {
        final int[] box = new int[MOST_POSTS];
        final int[] mask = new int[MOST_POSTS];
        private final int[] fresh = new int[MOST_POSTS + 1];
        int posts;
        int boxes;

        Parting() {
            setWhole(2);
        }

        void setAlone(int n) {
            posts = n;
            for (int p = 0; p < n; p++) {
                box[p] = p;
            }
            number();
        }

        void setWhole(int n) {
            posts = n;
            Arrays.fill(box, 0);
            number();
        }

        void become(Parting other) {
            posts = other.posts;
            boxes = other.boxes;
            System.arraycopy(other.box, 0, box, 0, MOST_POSTS);
            System.arraycopy(other.mask, 0, mask, 0, MOST_POSTS);
        }

        /** Numbers the boxes anew, after labels (0 .. 16) were put into box. */
        void number() {
            Arrays.fill(fresh, NONE);
            boxes = 0;
            for (int p = 0; p < posts; p++) {
                int label = box[p];
                if (fresh[label] == NONE) {
                    fresh[label] = boxes;
                    mask[boxes] = 0;
                    boxes++;
                }
                box[p] = fresh[label];
                mask[box[p]] |= 1 << p;
            }
        }

        boolean isBox(int b) {
            return b >= 0 && b < boxes;
        }

        int sizeOf(int b) {
            return Integer.bitCount(mask[b]);
        }

        /** Where the row of a box starts, if all rows stand one behind the other. */
        int startOf(int b) {
            int start = 0;
            for (int c = 0; c < b; c++) {
                start += Integer.bitCount(mask[c]);
            }
            return start;
        }

        boolean isAlone(int post) {
            return mask[box[post]] == 1 << post;
        }

        void join(int a, int b) {
            for (int p = 0; p < posts; p++) {
                if (box[p] == b) {
                    box[p] = a;
                }
            }
            number();
        }

        void lift(int post) {
            box[post] = MOST_POSTS;
            number();
        }

        void put(int post, int b) {
            box[post] = b;
            number();
        }

        /** Goes on to the next parting, by the box of post 0, then of post 1, ..; false behind the last one. */
        boolean goOn() {
            for (int p = posts - 1; p > 0; p--) {
                int highest = 0;
                for (int q = 0; q < p; q++) {
                    highest = Math.max(highest, box[q]);
                }
                if (box[p] <= highest) {
                    box[p]++;
                    for (int q = p + 1; q < posts; q++) {
                        box[q] = 0;
                    }
                    number();
                    return true;
                }
            }
            return false;
        }

        /** Becomes the coarsest parting: how many rounds parted some. */
        int refine(Net net, int[] marks) {
            posts = net.posts;
            System.arraycopy(marks, 0, box, 0, MOST_POSTS);
            number();
            int rounds = 0;
            boolean parted = true;
            for (int round = 0; parted && round < MOST_POSTS; round++) {
                int before = boxes;
                partOnce(net);
                parted = boxes > before;
                if (parted) {
                    rounds++;
                }
            }
            return rounds;
        }

        private void partOnce(Net net) {
            for (int p = 0; p < posts; p++) {
                int q = 0;
                while (q < p && !isAlike(net, p, q)) {
                    q++;
                }
                fresh[p] = q;
            }
            System.arraycopy(fresh, 0, box, 0, posts);
            number();
        }

        private boolean isAlike(Net net, int p, int q) {
            if (box[p] != box[q]) {
                return false;
            }
            for (int b = 0; b < boxes; b++) {
                if (Integer.bitCount(net.rows[p] & mask[b]) != Integer.bitCount(net.rows[q] & mask[b])) {
                    return false;
                }
            }
            return true;
        }

        /** Becomes the parting by nearly k. */
        void group(Net net, int[] marks, int k) {
            posts = net.posts;
            boxes = 0;
            for (int p = 0; p < posts; p++) {
                int b = 0;
                while (b < boxes && !fits(net, marks, k, p, mask[b])) {
                    b++;
                }
                if (b == boxes) {
                    mask[b] = 0;
                    boxes++;
                }
                box[p] = b;
                mask[b] |= 1 << p;
            }
        }

        private static boolean fits(Net net, int[] marks, int k, int p, int set) {
            for (int q = 0; q < p; q++) {
                if ((set >> q & 1) == 1) {
                    int others = ~(1 << p | 1 << q);
                    int apart = Integer.bitCount((net.rows[p] ^ net.rows[q]) & others);
                    if (marks[p] != marks[q] || apart > k) {
                        return false;
                    }
                }
            }
            return true;
        }
    }

    /** Boxes with their rows, words by their numbers, what these say, excepts and those left out. */
    private static final class Telling {
        final Parting parting = new Parting();
        final int[] row = new int[MOST_POSTS];
        final int[] words = new int[MOST_PAIRS];
        final Net said = new Net();
        final Net excepts = new Net();
        final Net left = new Net();
        int wordCount = 0;

        /** A word as one number, so that words are numbered as these numbers grow. */
        static int wordOf(int kind, int first, int second) {
            return (kind * MOST_POSTS + first) * MOST_POSTS + second;
        }

        static int kindOf(int word) {
            return word / (MOST_POSTS * MOST_POSTS);
        }

        static int firstOf(int word) {
            return word / MOST_POSTS % MOST_POSTS;
        }

        static int secondOf(int word) {
            return word % MOST_POSTS;
        }

        void become(Telling other) {
            parting.become(other.parting);
            System.arraycopy(other.row, 0, row, 0, MOST_POSTS);
            System.arraycopy(other.words, 0, words, 0, MOST_PAIRS);
            wordCount = other.wordCount;
            said.become(other.said);
            excepts.become(other.excepts);
            left.become(other.left);
        }

        void clearWords() {
            wordCount = 0;
            said.clear(parting.posts);
            excepts.clear(parting.posts);
            left.clear(parting.posts);
        }

        void addWord(int word) {
            if (wordCount < MOST_PAIRS) {
                words[wordCount] = word;
                wordCount++;
            }
        }

        int bitsOf(int word) {
            int boxBits = bits(parting.boxes);
            switch (kindOf(word)) {
                case SIDES:
                    return 3 + 2 * boxBits;
                case STAR:
                    return 3 + bits(parting.posts) + boxBits;
                default:
                    return 3 + boxBits;
            }
        }

        /** The pairs that a word says come into a net. */
        void say(int word, Net into) {
            int first = firstOf(word);
            int second = secondOf(word);
            switch (kindOf(word)) {
                case CROWD:
                    into.cross(parting.mask[first], parting.mask[first]);
                    break;
                case SIDES:
                    into.cross(parting.mask[first], parting.mask[second]);
                    break;
                case STAR:
                    into.cross(1 << first, parting.mask[second]);
                    break;
                default:
                    into.chain(row, parting.startOf(first), parting.sizeOf(first));
            }
        }

        void build(Net into) {
            into.differ(said, excepts);
        }

        /** Excepts are anew, by a net, and all told. */
        void correct(Net net) {
            excepts.differ(said, net);
            left.clear(parting.posts);
        }

        boolean isLeft(int pair) {
            return left.joins(Net.lesserOf(pair), Net.otherOf(pair));
        }

        void setLeft(int pair, boolean out) {
            if (isLeft(pair) != out) {
                left.flip(Net.lesserOf(pair), Net.otherOf(pair));
            }
        }

        /** Length without what the sorts take for excepts left out. */
        int plainLength() {
            int n = parting.posts;
            int length = n * bits(n) + 4 * parting.boxes;
            for (int k = 0; k < wordCount; k++) {
                length += bitsOf(words[k]);
            }
            return length + exceptBits(n) * (excepts.pairs() - left.pairs());
        }

        int countBroken(Telling other) {
            int count = 0;
            for (int k = 0; k < wordCount; k++) {
                if (!other.hasLike(this, words[k])) {
                    count++;
                }
            }
            return count;
        }

        private boolean hasLike(Telling other, int word) {
            for (int k = 0; k < wordCount; k++) {
                if (kindOf(words[k]) == kindOf(word) && isLike(words[k], other, word)) {
                    return true;
                }
            }
            return false;
        }

        private boolean isLike(int own, Telling other, int word) {
            int first = firstOf(own);
            int first2 = firstOf(word);
            boolean sameSecond = parting.mask[secondOf(own)] == other.parting.mask[secondOf(word)];
            boolean sameFirst = parting.mask[first] == other.parting.mask[first2];
            switch (kindOf(own)) {
                case CROWD:
                    return sameFirst;
                case SIDES:
                    return sameFirst && sameSecond;
                case STAR:
                    return first == first2 && sameSecond;
                default:
                    return sameFirst && isSameRow(first, other, first2);
            }
        }

        private boolean isSameRow(int b, Telling other, int c) {
            int size = parting.sizeOf(b);
            int start = parting.startOf(b);
            int start2 = other.parting.startOf(c);
            boolean forth = true;
            boolean back = true;
            for (int i = 0; i < size; i++) {
                forth = forth && row[start + i] == other.row[start2 + i];
                back = back && row[start + i] == other.row[start2 + size - 1 - i];
            }
            return forth || back;
        }
    }

    /** Words by the rule. */
    private static final class Rule {
        private final int[] between = new int[MOST_POSTS * MOST_POSTS];
        private int each = 0;
        private int boxBits = 0;
        private int postBits = 0;

        /** Gives a telling, whose parting is set, rows, words and excepts for a net: its length. */
        int tell(Net net, Telling telling) {
            each = exceptBits(net.posts);
            boxBits = bits(telling.parting.boxes);
            postBits = bits(net.posts);
            telling.clearWords();
            countBetween(net, telling.parting);
            takeCrowds(telling);
            takeSides(telling);
            takeStars(net, telling);
            layRows(net, telling);
            takeChains(net, telling);
            telling.correct(net);
            return telling.plainLength();
        }

        private void countBetween(Net net, Parting parting) {
            Arrays.fill(between, 0);
            for (int p = 0; p < parting.posts; p++) {
                int start = parting.box[p] * MOST_POSTS;
                for (int b = 0; b < parting.boxes; b++) {
                    between[start + b] += Integer.bitCount(net.rows[p] & parting.mask[b]);
                }
            }
        }

        /** A word is taken if it spares more bits than its own; ties and pairs are those not said yet. */
        private boolean isSparing(int ties, int pairs, int ownBits) {
            return each * (2 * ties - pairs) > ownBits;
        }

        private void takeCrowds(Telling telling) {
            Parting parting = telling.parting;
            for (int b = 0; b < parting.boxes; b++) {
                int size = parting.sizeOf(b);
                int ties = between[b * MOST_POSTS + b] / 2;
                if (size > 1 && isSparing(ties, size * (size - 1) / 2, 3 + boxBits)) {
                    telling.addWord(Telling.wordOf(CROWD, b, 0));
                    telling.said.cross(parting.mask[b], parting.mask[b]);
                }
            }
        }

        private void takeSides(Telling telling) {
            Parting parting = telling.parting;
            for (int a = 0; a < parting.boxes; a++) {
                int size = parting.sizeOf(a);
                for (int b = a + 1; b < parting.boxes; b++) {
                    int ties = between[a * MOST_POSTS + b];
                    if (ties > 0 && isSparing(ties, size * parting.sizeOf(b), 3 + 2 * boxBits)) {
                        telling.addWord(Telling.wordOf(SIDES, a, b));
                        telling.said.cross(parting.mask[a], parting.mask[b]);
                    }
                }
            }
        }

        private void takeStars(Net net, Telling telling) {
            Parting parting = telling.parting;
            for (int p = 0; p < parting.posts; p++) {
                for (int b = 0; b < parting.boxes; b++) {
                    int fresh = parting.mask[b] & ~(1 << p) & ~telling.said.rows[p];
                    int ties = Integer.bitCount(net.rows[p] & fresh);
                    if (ties > 0 && isSparing(ties, Integer.bitCount(fresh), 3 + postBits + boxBits)) {
                        telling.addWord(Telling.wordOf(STAR, p, b));
                        telling.said.cross(1 << p, parting.mask[b]);
                    }
                }
            }
        }

        private void layRows(Net net, Telling telling) {
            Parting parting = telling.parting;
            int at = 0;
            for (int b = 0; b < parting.boxes; b++) {
                int rest = parting.mask[b];
                int size = parting.sizeOf(b);
                int last = firstInRow(net, rest);
                for (int i = 0; i < size && at < MOST_POSTS; i++) {
                    telling.row[at] = last;
                    at++;
                    rest &= ~(1 << last);
                    int near = rest & net.rows[last];
                    if (rest != 0) {
                        last = leastOf(near != 0 ? near : rest);
                    }
                }
            }
        }

        private static int firstInRow(Net net, int set) {
            int first = 0;
            int fewest = MOST_POSTS;
            for (int p = 0; p < net.posts; p++) {
                if ((set >> p & 1) == 1) {
                    int ties = Integer.bitCount(net.rows[p] & set);
                    if (ties < fewest) {
                        first = p;
                        fewest = ties;
                    }
                }
            }
            return first;
        }

        private void takeChains(Net net, Telling telling) {
            Parting parting = telling.parting;
            int start = 0;
            for (int b = 0; b < parting.boxes; b++) {
                int size = parting.sizeOf(b);
                int ties = 0;
                int pairs = 0;
                for (int i = start; i < start + size - 1; i++) {
                    int p = telling.row[i];
                    int q = telling.row[i + 1];
                    if (!telling.said.joins(p, q)) {
                        pairs++;
                        ties += net.rows[p] >> q & 1;
                    }
                }
                if (size > 1 && isSparing(ties, pairs, 3 + boxBits)) {
                    telling.addWord(Telling.wordOf(CHAIN, b, 0));
                    telling.said.chain(telling.row, start, size);
                }
                start += size;
            }
        }
    }

    /** Partings by the rule, the least one of all, the bound below. */
    private static final class Search {
        private static final int PIECE = 5;
        private static final int MOST_STEPS = 1000000;

        private final Rule rule = new Rule();
        /** The telling that is tried: its parting is set first, then its words are told by the rule. */
        private final Telling trial = new Telling();
        private final Parting best = new Parting();
        private final Parting lifted = new Parting();
        private final int[] wrongBy = new int[PIECE + 1];
        private final int[] wrong = new int[PIECE + 1];
        private int shortest = 0;

        void partByRule(Net net, Parting out) {
            trial.parting.setAlone(net.posts);
            best.become(trial.parting);
            shortest = rule.tell(net, trial);
            boolean better = true;
            for (int step = 0; better && step < MOST_POSTS; step++) {
                better = joinTwo(net);
            }
            boolean moved = true;
            for (int round = 0; moved && round < MOST_STEPS; round++) {
                moved = false;
                for (int p = 0; p < net.posts; p++) {
                    if (movePost(net, p)) {
                        moved = true;
                    }
                }
            }
            out.become(best);
        }

        private boolean joinTwo(Net net) {
            int bestA = NONE;
            int bestB = NONE;
            for (int a = 0; a < best.boxes; a++) {
                for (int b = a + 1; b < best.boxes; b++) {
                    trial.parting.become(best);
                    trial.parting.join(a, b);
                    int length = rule.tell(net, trial);
                    if (length < shortest) {
                        shortest = length;
                        bestA = a;
                        bestB = b;
                    }
                }
            }
            if (bestA == NONE) {
                return false;
            }
            best.join(bestA, bestB);
            return true;
        }

        private boolean movePost(Net net, int post) {
            lifted.become(best);
            lifted.lift(post);
            int own = lifted.box[post];
            boolean moved = false;
            for (int i = 0; i <= lifted.boxes; i++) {
                // its own box stands among the others by its number, but comes last
                if (i != own) {
                    trial.parting.become(lifted);
                    trial.parting.put(post, i == lifted.boxes ? own : i);
                    int length = rule.tell(net, trial);
                    if (length < shortest) {
                        shortest = length;
                        best.become(trial.parting);
                        moved = true;
                    }
                }
            }
            return moved;
        }

        /** Finds the first of the least partings: how many are as short. */
        int partLeast(Net net, Parting out) {
            trial.parting.setWhole(net.posts);
            out.become(trial.parting);
            shortest = rule.tell(net, trial);
            int count = 1;
            boolean more = trial.parting.goOn();
            for (int step = 0; more && step < MOST_STEPS; step++) {
                int length = rule.tell(net, trial);
                if (length < shortest) {
                    shortest = length;
                    out.become(trial.parting);
                    count = 1;
                } else if (length == shortest) {
                    count++;
                }
                more = trial.parting.goOn();
            }
            return count;
        }

        int boundBelow(Net net) {
            int n = net.posts;
            Arrays.fill(wrong, 0);
            for (int from = 0; from < n; from += PIECE) {
                partPiece(net, from, Math.min(PIECE, n - from));
                for (int m = 1; m <= PIECE; m++) {
                    wrong[m] += wrongBy[m];
                }
            }
            int least = 4 + exceptBits(n) * wrong[1];
            for (int m = 2; m <= n; m++) {
                least = Math.min(least, 4 * m + exceptBits(n) * wrong[Math.min(m, PIECE)]);
            }
            return n * bits(n) + least;
        }

        /** Of a piece of the posts, for each m: the least of wrong pairs over all its partings into m boxes at most. */
        private void partPiece(Net net, int from, int size) {
            Parting piece = trial.parting;
            piece.setWhole(size);
            Arrays.fill(wrongBy, MOST_PAIRS);
            boolean more = true;
            for (int step = 0; more && step < MOST_STEPS; step++) {
                int own = wrongPairs(net, from, piece);
                for (int m = piece.boxes; m <= PIECE; m++) {
                    wrongBy[m] = Math.min(wrongBy[m], own);
                }
                more = piece.goOn();
            }
        }

        /** The pairs that are not as most of their box, or of their two boxes, are. */
        private static int wrongPairs(Net net, int from, Parting piece) {
            int wrong = 0;
            for (int a = 0; a < piece.boxes; a++) {
                int size = piece.sizeOf(a);
                for (int b = a; b < piece.boxes; b++) {
                    int ties = 0;
                    for (int p = 0; p < piece.posts; p++) {
                        if (piece.box[p] == a) {
                            ties += Integer.bitCount(net.rows[from + p] >> from & piece.mask[b]);
                        }
                    }
                    ties = a == b ? ties / 2 : ties;
                    int pairs = a == b ? size * (size - 1) / 2 : size * piece.sizeOf(b);
                    wrong += Math.min(ties, pairs - ties);
                }
            }
            return wrong;
        }
    }

    /** The tape, and the tokens of its text as far as they make one. */
    private static final class Tape {
        static final int MOST_BYTES = 2000;
        static final int MOST_TOKENS = 400;
        static final int MOST_WORDS = 40;

        static final int NAME = 0;
        static final int INT = 1;
        static final int SIGN = 2;
        static final int BOX = 3;
        static final int CROWD_WORD = 4;
        static final int CHAIN_WORD = 5;
        static final int SIDES_WORD = 6;
        static final int STAR_WORD = 7;
        static final int NOT = 8;
        static final int ALSO = 9;

        private static final int BLANK = 0;
        private static final int LETTER = 1;
        private static final int DIGIT = 2;
        private static final int SEMICOLON = 3;
        private static final int OTHER = 4;

        private static final int START = 0;
        private static final int BOX_NAME = 1;
        private static final int FIRST_POST = 2;
        private static final int MORE_POSTS = 3;
        private static final int LAST_NAME = 4;
        private static final int END_SIGN = 5;
        private static final int SIDES_NAME = 6;
        private static final int STAR_POST = 7;
        private static final int PAIR_POST = 8;
        private static final int LAST_POST = 9;

        private final byte[] bytes = new byte[MOST_BYTES];
        final int[] kinds = new int[MOST_TOKENS];
        final int[] places = new int[MOST_TOKENS];
        final long[] values = new long[MOST_TOKENS];
        private final long[] quoted = new long[ALSO + 1];
        int size = 0;
        int tokens = 0;
        int fault = 0;
        int place = NONE;

        Tape() {
            quoted[BOX] = spell("box");
            quoted[CROWD_WORD] = spell("crowd");
            quoted[CHAIN_WORD] = spell("chain");
            quoted[SIDES_WORD] = spell("sides");
            quoted[STAR_WORD] = spell("star");
            quoted[NOT] = spell("not");
            quoted[ALSO] = spell("also");
        }

        private static long spell(String name) {
            long value = 0;
            for (int i = 0; i < name.length(); i++) {
                value = value * 27 + name.charAt(i) - 'a' + 1;
            }
            return value;
        }

        void put(int four) {
            for (int shift = 24; shift >= 0 && size < MOST_BYTES; shift -= 8) {
                bytes[size] = (byte) (four >> shift);
                size++;
            }
        }

        /** Finds the tokens and the first fault of syntax or room. */
        void scan() {
            tokens = 0;
            fault = 0;
            place = NONE;
            int state = START;
            int words = 0;
            int at = skipBlanks(0);
            for (int i = 0; i < MOST_BYTES && fault == 0 && at < size; i++) {
                int end = endOf(at);
                long value = valueOf(at, end);
                int kind = kindOf(at, end, value);
                state = step(state, kind);
                words += isWord(kind) ? 1 : 0;
                if (state == NONE) {
                    blame(Text.SYNTAX, at);
                } else if (tokens >= MOST_TOKENS || words > MOST_WORDS) {
                    blame(Text.ROOM, at);
                } else {
                    keep(kind, value, at);
                    at = skipBlanks(end);
                }
            }
            if (fault == 0 && state != START) {
                blame(Text.SYNTAX, size);
            }
        }

        private void blame(int number, int where) {
            fault = number;
            place = where;
        }

        private void keep(int kind, long value, int where) {
            kinds[tokens] = kind;
            values[tokens] = value;
            places[tokens] = where;
            tokens++;
        }

        private int skipBlanks(int from) {
            int at = from;
            while (at < size && sortOf(at) == BLANK) {
                at++;
            }
            return at;
        }

        private int endOf(int from) {
            int sort = sortOf(from);
            int at = from + 1;
            while (at < size && (sort == LETTER || sort == DIGIT) && sortOf(at) == sort) {
                at++;
            }
            return at;
        }

        private int sortOf(int at) {
            int c = bytes[at] & 255;
            if (c == 9 || c == 10 || c == 13 || c == 32) {
                return BLANK;
            }
            if (c >= 'a' && c <= 'z') {
                return LETTER;
            }
            if (c >= '0' && c <= '9') {
                return DIGIT;
            }
            return c == ';' ? SEMICOLON : OTHER;
        }

        private long valueOf(int from, int end) {
            int sort = sortOf(from);
            long value = 0;
            for (int at = from; at < end && at < from + 8; at++) {
                value = sort == LETTER ? value * 27 + bytes[at] - 'a' + 1 : value * 10 + bytes[at] - '0';
            }
            return value;
        }

        private int kindOf(int from, int end, long value) {
            int length = end - from;
            switch (sortOf(from)) {
                case LETTER:
                    return length > 8 ? NONE : nameKind(value);
                case DIGIT:
                    return length > 4 ? NONE : INT;
                case SEMICOLON:
                    return SIGN;
                default:
                    return NONE;
            }
        }

        private int nameKind(long value) {
            for (int kind = BOX; kind <= ALSO; kind++) {
                if (quoted[kind] == value) {
                    return kind;
                }
            }
            return NAME;
        }

        private static boolean isWord(int kind) {
            return kind >= CROWD_WORD && kind <= STAR_WORD;
        }

        /** What is awaited behind a token; NONE if no text goes on with it. */
        private static int step(int state, int kind) {
            switch (state) {
                case START:
                    return begin(kind);
                case BOX_NAME:
                    return kind == NAME ? FIRST_POST : NONE;
                case FIRST_POST:
                    return kind == INT ? MORE_POSTS : NONE;
                case MORE_POSTS:
                    return kind == INT ? MORE_POSTS : kind == SIGN ? START : NONE;
                case LAST_NAME:
                    return kind == NAME ? END_SIGN : NONE;
                case SIDES_NAME:
                    return kind == NAME ? LAST_NAME : NONE;
                case STAR_POST:
                    return kind == INT ? LAST_NAME : NONE;
                case PAIR_POST:
                    return kind == INT ? LAST_POST : NONE;
                case LAST_POST:
                    return kind == INT ? END_SIGN : NONE;
                default:
                    return kind == SIGN ? START : NONE;
            }
        }

        private static int begin(int kind) {
            switch (kind) {
                case BOX:
                    return BOX_NAME;
                case CROWD_WORD:
                case CHAIN_WORD:
                    return LAST_NAME;
                case SIDES_WORD:
                    return SIDES_NAME;
                case STAR_WORD:
                    return STAR_POST;
                case NOT:
                case ALSO:
                    return PAIR_POST;
                default:
                    return NONE;
            }
        }
    }

    /** What a text without a fault of syntax or room tells; its boxes stand as they are told. */
    private static final class Text {
        /** Faulty texts can tell more boxes than there are posts: each of four tokens or more. */
        static final int MOST_BOXES = Tape.MOST_TOKENS / 4;
        static final int SYNTAX = 1;
        static final int ROOM = 2;
        private static final int TWICE = 3;
        private static final int NO_NAME = 4;
        private static final int WRONG = 5;
        private static final int OPEN = 6;

        private final long[] names = new long[MOST_BOXES];
        private final int[] masks = new int[MOST_BOXES];
        private final int[] starts = new int[MOST_BOXES];
        private final int[] sizes = new int[MOST_BOXES];
        /** The rows of all boxes, one behind the other; in a faulty text a post can stand in several, NONE for no post. */
        private final int[] row = new int[Tape.MOST_TOKENS];
        /** Of each word: its kind, its box (of a star its post), the other box. */
        private final int[] kinds = new int[Tape.MOST_WORDS];
        private final int[] firsts = new int[Tape.MOST_WORDS];
        private final int[] seconds = new int[Tape.MOST_WORDS];
        private final Net said = new Net();
        private final Net pairs = new Net();
        private int posts = 2;
        private int boxes = 0;
        private int placed = 0;
        private int seen = 0;
        private int wordCount = 0;
        int fault = 0;
        int place = NONE;

        /** Finds what is told and the first fault of it. */
        void understand(Tape tape, int n) {
            posts = n;
            boxes = 0;
            placed = 0;
            seen = 0;
            wordCount = 0;
            fault = 0;
            place = NONE;
            said.clear(n);
            pairs.clear(n);
            int i = 0;
            while (i < tape.tokens) {
                i = Math.max(i + 1, takeTell(tape, i));
            }
            checkAlsos(tape);
            if (seen != (1 << n) - 1) {
                blame(OPEN, tape.size);
            }
        }

        /** The first fault by its place counts, of one place the least. */
        private void blame(int number, int where) {
            if (fault == 0 || where < place || where == place && number < fault) {
                fault = number;
                place = where;
            }
        }

        /** Takes the tell that begins at a token: the token behind it. */
        private int takeTell(Tape tape, int i) {
            switch (tape.kinds[i]) {
                case Tape.BOX:
                    return takeBox(tape, i + 1);
                case Tape.CROWD_WORD:
                    takeOfBox(tape, i, CROWD);
                    return i + 3;
                case Tape.CHAIN_WORD:
                    takeOfBox(tape, i, CHAIN);
                    return i + 3;
                case Tape.SIDES_WORD:
                    takeSides(tape, i);
                    return i + 4;
                case Tape.STAR_WORD:
                    takeStar(tape, i);
                    return i + 4;
                default:
                    takePair(tape, i);
                    return i + 4;
            }
        }

        private int findName(long name) {
            for (int b = 0; b < boxes; b++) {
                if (names[b] == name) {
                    return b;
                }
            }
            return NONE;
        }

        /** The box that a token names; NONE is a fault. */
        private int boxNamed(Tape tape, int i) {
            int box = findName(tape.values[i]);
            if (box == NONE) {
                blame(NO_NAME, tape.places[i]);
            }
            return box;
        }

        /** The post that a token tells; NONE is a fault. */
        private int postTold(Tape tape, int i) {
            if (tape.values[i] >= posts) {
                blame(WRONG, tape.places[i]);
                return NONE;
            }
            return (int) tape.values[i];
        }

        private int takeBox(Tape tape, int nameAt) {
            boolean twice = findName(tape.values[nameAt]) != NONE;
            if (twice) {
                blame(TWICE, tape.places[nameAt]);
            }
            int from = placed;
            int mask = 0;
            int i = nameAt + 1;
            while (i < tape.tokens && tape.kinds[i] == Tape.INT) {
                int post = postTold(tape, i);
                if (post != NONE) {
                    if ((seen >> post & 1) == 1) {
                        blame(TWICE, tape.places[i]);
                    }
                    seen |= 1 << post;
                    mask |= 1 << post;
                }
                if (placed < row.length) {
                    row[placed] = post;
                    placed++;
                }
                i++;
            }
            if (!twice && boxes < MOST_BOXES) {
                names[boxes] = tape.values[nameAt];
                masks[boxes] = mask;
                starts[boxes] = from;
                sizes[boxes] = placed - from;
                boxes++;
            }
            return i + 1;
        }

        // a word says its pairs even if it, or an int of its box, is a fault: an also ahead may be wrong by them

        private void takeOfBox(Tape tape, int i, int kind) {
            int box = boxNamed(tape, i + 1);
            if (box == NONE) {
                return;
            }
            if (Integer.bitCount(masks[box]) < 2) {
                blame(WRONG, tape.places[i + 1]);
            }
            takeWord(kind, box, 0, tape.places[i]);
            if (kind == CROWD) {
                said.cross(masks[box], masks[box]);
            } else {
                said.chain(row, starts[box], sizes[box]);
            }
        }

        private void takeSides(Tape tape, int i) {
            int one = boxNamed(tape, i + 1);
            int two = boxNamed(tape, i + 2);
            if (one == NONE || two == NONE) {
                return;
            }
            if (one == two) {
                blame(WRONG, tape.places[i + 2]);
            }
            takeWord(SIDES, Math.min(one, two), Math.max(one, two), tape.places[i]);
            said.cross(masks[one], masks[two]);
        }

        private void takeStar(Tape tape, int i) {
            int post = postTold(tape, i + 1);
            int box = boxNamed(tape, i + 2);
            if (post == NONE || box == NONE) {
                return;
            }
            if ((masks[box] & ~(1 << post)) == 0) {
                blame(WRONG, tape.places[i + 2]);
            }
            takeWord(STAR, post, box, tape.places[i]);
            said.cross(1 << post, masks[box]);
        }

        private void takeWord(int kind, int first, int second, int where) {
            for (int k = 0; k < wordCount; k++) {
                if (kinds[k] == kind && firsts[k] == first && seconds[k] == second) {
                    blame(TWICE, where);
                    return;
                }
            }
            if (wordCount < Tape.MOST_WORDS) {
                kinds[wordCount] = kind;
                firsts[wordCount] = first;
                seconds[wordCount] = second;
                wordCount++;
            }
        }

        private void takePair(Tape tape, int i) {
            int a = postTold(tape, i + 1);
            int b = postTold(tape, i + 2);
            if (a == NONE || b == NONE) {
                return;
            }
            int where = tape.places[i + 2];
            if (a == b) {
                blame(WRONG, where);
                return;
            }
            if (tape.kinds[i] == Tape.NOT && !said.joins(a, b)) {
                blame(WRONG, where);
            }
            if (pairs.joins(a, b)) {
                blame(TWICE, where);
            } else {
                pairs.flip(a, b);
            }
        }

        /** An also of a pair that is said is wrong, even if the word that says it is told behind. */
        private void checkAlsos(Tape tape) {
            for (int i = 0; i + 2 < tape.tokens; i++) {
                if (tape.kinds[i] == Tape.ALSO) {
                    int a = postTold(tape, i + 1);
                    int b = postTold(tape, i + 2);
                    if (a != NONE && b != NONE && said.joins(a, b)) {
                        blame(WRONG, tape.places[i + 2]);
                    }
                }
            }
        }

        /** Puts a text without a fault into a telling. */
        void write(Telling out) {
            Parting parting = out.parting;
            parting.setAlone(posts);
            for (int p = 0; p < posts; p++) {
                parting.box[p] = boxOf(p);
            }
            parting.number();
            out.clearWords();
            for (int b = 0; b < boxes; b++) {
                int to = parting.startOf(numberOf(parting, b));
                System.arraycopy(row, starts[b], out.row, to, sizes[b]);
            }
            for (int k = 0; k < wordCount; k++) {
                insert(out, numbered(parting, k));
            }
            out.said.become(said);
            out.excepts.become(pairs);
        }

        private int boxOf(int post) {
            for (int b = 0; b < boxes; b++) {
                if ((masks[b] >> post & 1) == 1) {
                    return b;
                }
            }
            return 0;
        }

        private int numberOf(Parting parting, int b) {
            int post = row[starts[b]];
            return post == NONE ? 0 : parting.box[post];
        }

        /** The k-th word told, with the numbers that its boxes have in a parting. */
        private int numbered(Parting parting, int k) {
            if (kinds[k] == STAR) {
                return Telling.wordOf(STAR, firsts[k], numberOf(parting, seconds[k]));
            }
            int one = numberOf(parting, firsts[k]);
            if (kinds[k] != SIDES) {
                return Telling.wordOf(kinds[k], one, 0);
            }
            int two = numberOf(parting, seconds[k]);
            return Telling.wordOf(SIDES, Math.min(one, two), Math.max(one, two));
        }

        /** Puts a word among those of a telling, by its number. */
        private static void insert(Telling out, int word) {
            out.addWord(word);
            for (int k = out.wordCount - 1; k > 0 && out.words[k - 1] > out.words[k]; k--) {
                out.words[k] = out.words[k - 1];
                out.words[k - 1] = word;
            }
        }
    }

    /** The sorts of a telling's pairs, and answers from what is told alone. */
    private static final class Sorts {
        static final int TIED = 0;
        static final int TIES = 1;
        static final int CUT = 2;
        static final int FAR = 3;
        static final int PATHS = 4;
        static final int TRIOS = 5;

        private static final int PLACES = 2 * MOST_POSTS * MOST_POSTS;

        private static final int TOLD_NOT = -1;
        private static final int TOLD_ALSO = -2;

        /** R of each sort. */
        final int[] free = new int[PLACES];
        /** C of each sort. */
        final int[] gone = new int[PLACES];
        /** The place of each pair's sort, or what sort of told except it is. */
        private final int[] places = new int[MOST_POSTS * MOST_POSTS];
        private final int[] asked = new int[PLACES];
        /** The places whose sorts have any R pairs, and those of the pairs asked for. */
        private final int[] used = new int[MOST_PAIRS];
        private final int[] hit = new int[MOST_PAIRS];
        private int usedCount = 0;
        private int hitCount = 0;
        private final Net sure = new Net();
        private final Net open = new Net();
        private final Net seen = new Net();
        final int[] lead = new int[MOST_PAIRS];
        int leadCount = 0;

        static int placeOf(Telling telling, int a, int b, boolean said) {
            int one = telling.parting.box[a];
            int two = telling.parting.box[b];
            return 2 * (Math.min(one, two) * MOST_POSTS + Math.max(one, two)) + (said ? 1 : 0);
        }

        /** Looks at a telling; the answers are from it until the next look. */
        void take(Telling telling) {
            forget();
            int n = telling.parting.posts;
            for (int a = 0; a < n; a++) {
                for (int b = a + 1; b < n; b++) {
                    boolean said = telling.said.joins(a, b);
                    boolean left = telling.left.joins(a, b);
                    int place = placeOf(telling, a, b, said);
                    if (telling.excepts.joins(a, b) && !left) {
                        place = said ? TOLD_NOT : TOLD_ALSO;
                    } else {
                        countFree(place, left);
                    }
                    places[a * MOST_POSTS + b] = place;
                    places[b * MOST_POSTS + a] = place;
                }
            }
            settle(n);
        }

        private void forget() {
            for (int i = 0; i < usedCount; i++) {
                free[used[i]] = 0;
                gone[used[i]] = 0;
            }
            usedCount = 0;
        }

        private void countFree(int place, boolean left) {
            if (free[place] == 0 && usedCount < MOST_PAIRS) {
                used[usedCount] = place;
                usedCount++;
            }
            free[place]++;
            if (left) {
                gone[place]++;
            }
        }

        /** Finds the pairs that are ties for sure, and those that are open. */
        private void settle(int n) {
            sure.clear(n);
            open.clear(n);
            for (int a = 0; a < n; a++) {
                for (int b = a + 1; b < n; b++) {
                    int place = places[a * MOST_POSTS + b];
                    boolean told = place < 0;
                    if (!told && gone[place] > 0 && gone[place] < free[place]) {
                        open.flip(a, b);
                    } else if (told ? place == TOLD_ALSO : isSaid(place) == (gone[place] == 0)) {
                        sure.flip(a, b);
                    }
                }
            }
        }

        private static boolean isSaid(int place) {
            return place % 2 == 1;
        }

        int measure(Telling telling) {
            take(telling);
            return lengthOf(telling);
        }

        /** The length of the telling that was looked at. */
        int lengthOf(Telling telling) {
            int length = telling.plainLength();
            int boxBits = bits(telling.parting.boxes);
            for (int i = 0; i < usedCount; i++) {
                if (gone[used[i]] > 0) {
                    length += 4 + 2 * boxBits + bits(free[used[i]] + 1);
                }
            }
            return length;
        }

        int answer(Telling telling, int kind, int a, int b, int how) {
            switch (kind) {
                case FAR:
                    see(how == LEAST);
                    return countSteps(a, b);
                case PATHS:
                    see(how == MOST);
                    return Integer.bitCount(seen.rows[a] & seen.rows[b]);
                case TRIOS:
                    see(how == MOST);
                    return countTrios(a);
                default:
                    return sum(telling.parting.posts, kind, a, b, how);
            }
        }

        int off(Telling telling, int kind, int a, int b) {
            if (kind <= CUT) {
                return sum(telling.parting.posts, kind, a, b, OFF);
            }
            return answer(telling, kind, a, b, MOST) - answer(telling, kind, a, b, LEAST);
        }

        private void see(boolean withOpen) {
            seen.become(sure);
            if (withOpen) {
                seen.differ(seen, open);
            }
        }

        private int countSteps(int a, int b) {
            int reached = 1 << a;
            for (int steps = 1; steps < seen.posts; steps++) {
                int next = reached;
                for (int p = 0; p < seen.posts; p++) {
                    if ((reached >> p & 1) == 1) {
                        next |= seen.rows[p];
                    }
                }
                reached = next;
                if ((reached >> b & 1) == 1) {
                    return steps;
                }
            }
            return seen.posts;
        }

        private int countTrios(int a) {
            int twice = 0;
            for (int p = 0; p < seen.posts; p++) {
                if (seen.joins(a, p)) {
                    twice += Integer.bitCount(seen.rows[p] & seen.rows[a]);
                }
            }
            return twice / 2;
        }

        /** The posts whose pairs with a post are asked for. */
        private static int partners(int kind, int a, int b, int post, int all) {
            if (kind == CUT) {
                return (a >> post & 1) == 1 ? all & ~a : 0;
            }
            if (post != a) {
                return 0;
            }
            return kind == TIED ? 1 << b : all & ~(1 << a);
        }

        private int sum(int n, int kind, int a, int b, int how) {
            int alsos = 0;
            hitCount = 0;
            for (int p = 0; p < n; p++) {
                int others = partners(kind, a, b, p, (1 << n) - 1);
                for (int q = 0; q < n && others != 0; q++) {
                    if ((others >> q & 1) == 1) {
                        int place = places[p * MOST_POSTS + q];
                        if (place >= 0) {
                            countAsked(place);
                        } else if (place == TOLD_ALSO) {
                            alsos++;
                        }
                    }
                }
            }
            int total = how == OFF ? 0 : how == MEAN ? 1000 * alsos : alsos;
            for (int i = 0; i < hitCount; i++) {
                total += share(hit[i], how);
                asked[hit[i]] = 0;
            }
            return total;
        }

        private void countAsked(int place) {
            if (asked[place] == 0 && hitCount < MOST_PAIRS) {
                hit[hitCount] = place;
                hitCount++;
            }
            asked[place]++;
        }

        /** How many ties the pairs asked for in a sort are (a thousand times, if it is the mean), or how far off. */
        private int share(int place, int how) {
            int pairs = asked[place];
            int fewest = Math.max(0, gone[place] - (free[place] - pairs));
            int most = Math.min(gone[place], pairs);
            if (how == OFF) {
                return most - fewest;
            }
            if (how == MEAN) {
                int thousandth = free[place] < 1 ? 0 : 1000 * gone[place] * pairs / free[place];
                return isSaid(place) ? 1000 * pairs - thousandth : thousandth;
            }
            if (isSaid(place)) {
                return how == LEAST ? pairs - most : pairs - fewest;
            }
            return how == LEAST ? fewest : most;
        }

        /** Finds the excepts left out that make a question's answers less far off. */
        void followLeads(Telling telling, int kind, int a, int b) {
            take(telling);
            int before = off(telling, kind, a, b);
            int count = telling.excepts.pairs();
            leadCount = 0;
            for (int k = 0; k < count; k++) {
                int pair = telling.excepts.pairAt(k);
                if (pair != NONE && telling.isLeft(pair)) {
                    telling.setLeft(pair, false);
                    take(telling);
                    if (off(telling, kind, a, b) < before && leadCount < MOST_PAIRS) {
                        lead[leadCount] = k;
                        leadCount++;
                    }
                    telling.setLeft(pair, true);
                }
            }
        }
    }

    /** The reader's questions, and how it is served. */
    private static final class Reader {
        private static final int MOST_QUESTIONS = 10;
        private static final int MOST_SETS = 9;

        private final int[] kinds = new int[MOST_QUESTIONS];
        private final int[] ones = new int[MOST_QUESTIONS];
        private final int[] others = new int[MOST_QUESTIONS];
        private final int[] weights = new int[MOST_QUESTIONS];
        private final int[] list = new int[MOST_PAIRS];
        private final Net before = new Net();
        private int listed = 0;
        int questions = 0;

        int add(int kind, int a, int b, int weight) {
            if (questions >= MOST_QUESTIONS) {
                return NONE;
            }
            kinds[questions] = kind;
            ones[questions] = a;
            others[questions] = b;
            weights[questions] = weight;
            questions++;
            return questions - 1;
        }

        /** The harm by a telling that the sorts have looked at. */
        int harmBy(Telling telling, Sorts sorts) {
            int harm = 0;
            for (int i = 0; i < questions; i++) {
                harm += weights[i] * sorts.off(telling, kinds[i], ones[i], others[i]);
            }
            return harm;
        }

        /** Begins to serve by a telling: whether its excepts are so few that all sets of them are tried. */
        boolean begin(Telling telling) {
            before.become(telling.left);
            listed = Math.min(MOST_PAIRS, telling.excepts.pairs());
            for (int k = 0; k < listed; k++) {
                list[k] = telling.excepts.pairAt(k);
            }
            return listed <= MOST_SETS;
        }

        private void tellOnly(Telling telling, int set) {
            for (int k = 0; k < listed; k++) {
                telling.setLeft(list[k], (set >> k & 1) == 0);
            }
        }

        int serveBest(Telling telling, Sorts sorts, int length) {
            int bestSet = NONE;
            int bestHarm = 0;
            int bestLength = 0;
            for (int set = 0; set < 1 << listed; set++) {
                tellOnly(telling, set);
                int own = sorts.measure(telling);
                if (own <= length) {
                    int harm = harmBy(telling, sorts);
                    if (bestSet == NONE || harm < bestHarm || harm == bestHarm && own < bestLength) {
                        bestSet = set;
                        bestHarm = harm;
                        bestLength = own;
                    }
                }
            }
            if (bestSet == NONE) {
                telling.left.become(before);
                return REFUSED;
            }
            tellOnly(telling, bestSet);
            return bestHarm;
        }

        int serveSteps(Telling telling, Sorts sorts, int length) {
            telling.left.become(telling.excepts);
            if (sorts.measure(telling) > length) {
                telling.left.become(before);
                return REFUSED;
            }
            int harm = harmBy(telling, sorts);
            boolean better = true;
            for (int step = 0; better && step < listed; step++) {
                int best = NONE;
                for (int k = 0; k < listed; k++) {
                    if (telling.isLeft(list[k])) {
                        telling.setLeft(list[k], false);
                        int own = sorts.measure(telling) > length ? harm : harmBy(telling, sorts);
                        telling.setLeft(list[k], true);
                        if (own < harm) {
                            harm = own;
                            best = k;
                        }
                    }
                }
                better = best != NONE;
                if (better) {
                    telling.setLeft(list[best], false);
                }
            }
            return harm;
        }
    }

    /** Boxes laid in a line, and sentences by what they spare. */
    private static final class Order {
        private static final int SETS = 1 << MOST_SMALL;

        /** What the gaps behind a set of boxes, laid first, sum up to at least. */
        private final int[] behind = new int[SETS];
        private final Net built = new Net();
        private final Net says = new Net();
        private final Net ahead = new Net();
        private final int[] pairs = new int[MOST_PAIRS * MOST_POSTS];
        private final boolean[] spoken = new boolean[MOST_PAIRS];
        int word = NONE;
        int spare = NO_SPARE;

        /** Lays the boxes of a telling (8 at most): the least sum. */
        int lay(Telling telling) {
            telling.build(built);
            int all = (1 << telling.parting.boxes) - 1;
            behind[all] = 0;
            for (int set = all - 1; set >= 0; set--) {
                int least = MOST_PAIRS * MOST_POSTS;
                for (int b = 0; b < telling.parting.boxes; b++) {
                    if ((set >> b & 1) == 0) {
                        least = Math.min(least, sumWith(telling, set | 1 << b));
                    }
                }
                behind[set] = least;
            }
            return behind[0];
        }

        /** The ties that go over the gap behind a set of boxes, and the gaps further behind. */
        private int sumWith(Telling telling, int set) {
            int posts = 0;
            for (int b = 0; b < telling.parting.boxes; b++) {
                if ((set >> b & 1) == 1) {
                    posts |= telling.parting.mask[b];
                }
            }
            int over = 0;
            for (int p = 0; p < built.posts; p++) {
                if ((posts >> p & 1) == 1) {
                    over += Integer.bitCount(built.rows[p] & ~posts);
                }
            }
            return over + behind[set];
        }

        /** The box at a place of the line that was laid. */
        int boxAt(Telling telling, int place) {
            int set = 0;
            int last = NONE;
            for (int i = 0; i <= place; i++) {
                int b = 0;
                while (b < telling.parting.boxes && !canFollow(telling, set, b)) {
                    b++;
                }
                if (b < telling.parting.boxes) {
                    last = b;
                    set |= 1 << b;
                }
            }
            return last;
        }

        private boolean canFollow(Telling telling, int set, int b) {
            return (set >> b & 1) == 0 && sumWith(telling, set | 1 << b) == behind[set];
        }

        /** Says the words of a telling one by one, up to the i-th sentence. */
        void speak(Telling telling, int i) {
            telling.build(built);
            ahead.clear(built.posts);
            for (int k = 0; k < telling.wordCount; k++) {
                spoken[k] = false;
                says.clear(built.posts);
                telling.say(telling.words[k], says);
                System.arraycopy(says.rows, 0, pairs, k * MOST_POSTS, MOST_POSTS);
            }
            for (int step = 0; step <= i; step++) {
                choose(telling);
                spoken[word] = true;
                for (int p = 0; p < built.posts; p++) {
                    ahead.rows[p] |= pairs[word * MOST_POSTS + p];
                }
            }
        }

        private void choose(Telling telling) {
            word = 0;
            spare = NO_SPARE;
            for (int k = 0; k < telling.wordCount; k++) {
                if (!spoken[k]) {
                    int own = spareOf(telling, k);
                    if (own > spare) {
                        word = k;
                        spare = own;
                    }
                }
            }
        }

        private int spareOf(Telling telling, int k) {
            int ties = 0;
            int all = 0;
            for (int p = 0; p < built.posts; p++) {
                int fresh = pairs[k * MOST_POSTS + p] & ~ahead.rows[p];
                all += Integer.bitCount(fresh);
                ties += Integer.bitCount(fresh & built.rows[p]);
            }
            return exceptBits(built.posts) * (2 * ties - all) / 2 - telling.bitsOf(telling.words[k]);
        }
    }
}
