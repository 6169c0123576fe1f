/** A ring of stones watched by sentries at posts; ../shared/DOC.md tells what each call promises. */
public final class FortressWatch {
    public static final int NONE = -1;
    public static final int BAD = -2;
    public static final int REFUSED = -3;
    public static final int NOTHING = -4;

    private static final int STONES = 24;
    private static final int ALL_STONES = 16777215;
    private static final int MOST_POSTS = 9;
    private static final int ALL_POSTS = 511;
    private static final int MOST_REACH = 11;
    private static final int MOST_BLIND = 8;
    private static final int LAST_HOUR = 11;
    private static final int MOST_GAPS = 12;
    private static final int MOST_TEXT = 70;
    private static final int LONGEST_LINE = 24;
    // A power of two, so that a mask keeps the ring's index inside it.
    private static final int MOST_UNDO = 8;

    private static final int DONE = 0;
    private static final int NO_PLACE_LEFT = 1;
    private static final int STONE_TAKEN = 2;
    private static final int SO_ALREADY = 3;
    private static final int NO_FULL_WATCH = 4;
    private static final int NO_BLIND_ANGLE = 5;

    // Every row is made here once and used again: a run's calls share one room and make no objects.
    private final Wall wall = new Wall();
    private final Wall before = new Wall();
    private final Wall snapshot = new Wall();
    private final Past past = new Past();
    private final Sights sights = new Sights();
    private final Chooser chooser = new Chooser();
    private final Gaps gaps = new Gaps();
    private final Order order = new Order();
    private final Text text = new Text();
    private final Line line = new Line();
    private final Refused refused = new Refused();
    private boolean hasSnapshot;
    private int commandNow;

    public FortressWatch() {
        hasSnapshot = false;
        commandNow = NOTHING;
    }

    // ---- posts

    public int post(int stone, int left, int right) {
        before.copyFrom(wall);
        return kept(buildPost(stone, left, right));
    }

    public int tear(int post) {
        before.copyFrom(wall);
        return kept(tearDown(post));
    }

    public int reach(int post, int left, int right) {
        before.copyFrom(wall);
        return kept(tellReaches(post, left, right));
    }

    public int blind(int post, int stone, int many) {
        before.copyFrom(wall);
        int answer = kept(tellBlindAngle(post, stone, many));
        return answer < 0 ? answer : manySeenNow(post);
    }

    public int see(int post) {
        before.copyFrom(wall);
        int answer = kept(dropBlindAngle(post));
        return answer < 0 ? answer : manySeenNow(post);
    }

    public int man(int post, int isManned) {
        before.copyFrom(wall);
        int answer = kept(letBeManned(post, isManned));
        return answer < 0 ? answer : manyWatchedNow();
    }

    public int hour(int hour) {
        before.copyFrom(wall);
        return kept(tellHour(hour));
    }

    public int watch() {
        before.copyFrom(wall);
        return kept(manFewest());
    }

    // ---- what is seen

    public int postOf(int post, int what) {
        if (!wall.isPost(post)) {
            return NONE;
        }
        if (what < 0 || what > 8) {
            return BAD;
        }
        if (what <= 5) {
            return wall.numberOf(post, what);
        }
        sights.lookAt(wall, wall.hour);
        if (what == 6) {
            return sights.manySeen(post);
        }
        if (what == 7) {
            return sights.manySeenAlone(post);
        }
        chooser.trySets(sights);
        return (chooser.inEach >>> post) & 1;
    }

    public int sees(int post, int stone) {
        if (!wall.isPost(post) || !isStone(stone)) {
            return NONE;
        }
        sights.lookAt(wall, wall.hour);
        return (sights.of(post) >>> stone) & 1;
    }

    public int watched(int stone) {
        if (!isStone(stone)) {
            return NONE;
        }
        sights.lookAt(wall, wall.hour);
        return Integer.bitCount(sights.seersOf(stone) & sights.manned);
    }

    public int seenBy(int stone) {
        if (!isStone(stone)) {
            return NONE;
        }
        sights.lookAt(wall, wall.hour);
        return sights.seersOf(stone);
    }

    public int gapOf(int gap, int what) {
        sights.lookAt(wall, wall.hour);
        gaps.find(sights.seenBySet(sights.manned));
        if (!gaps.isGap(gap)) {
            return NONE;
        }
        switch (what) {
            case 0: return gaps.firstOf(gap);
            case 1: return gaps.lengthOf(gap);
            case 2: return sights.bestAmong(ALL_POSTS, stretch(gaps.firstOf(gap), gaps.lengthOf(gap)));
            default: return BAD;
        }
    }

    // ---- watches

    public int fewest() {
        sights.lookAt(wall, wall.hour);
        chooser.trySets(sights);
        return chooser.best;
    }

    public int fewestAgain() {
        sights.lookAt(wall, wall.hour);
        return chooser.searchStones(sights);
    }

    public int watches() {
        sights.lookAt(wall, wall.hour);
        chooser.trySets(sights);
        return chooser.ways;
    }

    public int isFull(int set) {
        if (set < 0 || set >= 1 << wall.posts) {
            return NONE;
        }
        sights.lookAt(wall, wall.hour);
        return sights.seenBySet(set) == ALL_STONES ? 1 : 0;
    }

    public int spare() {
        sights.lookAt(wall, wall.hour);
        int all = sights.seenBySet(sights.manned);
        int staying = sights.manned;
        // Who cannot leave now cannot later either, as others only become fewer: one pass is enough.
        for (int post = MOST_POSTS - 1; post >= 0; post--) {
            int without = staying & ~(1 << post);
            if (sights.seenBySet(without) == all) {
                staying = without;
            }
        }
        return Integer.bitCount(sights.manned) - Integer.bitCount(staying);
    }

    public int next() {
        sights.lookAt(wall, wall.hour);
        return closingMost(sights.manned);
    }

    public int greedy() {
        sights.lookAt(wall, wall.hour);
        int set = sights.manned;
        for (int round = 0; round < MOST_POSTS; round++) {
            int post = closingMost(set);
            if (post == NOTHING) {
                break;
            }
            set |= 1 << post;
        }
        return Integer.bitCount(set);
    }

    // ---- what would be, orders

    public int wouldNeed(int hour) {
        if (!isHour(hour)) {
            return BAD;
        }
        sights.lookAt(wall, hour);
        chooser.trySets(sights);
        return chooser.best == NOTHING ? NOTHING : Integer.bitCount(chooser.best);
    }

    public int wouldTurn(int by) {
        if (by < 0 || by >= STONES) {
            return BAD;
        }
        sights.lookAt(wall, wall.hour);
        return Integer.bitCount(turned(sights.seenBySet(sights.manned), by));
    }

    public int ranked(int kind, int place) {
        if (kind < 0 || kind > 2) {
            return BAD;
        }
        if (place < 0 || place >= wall.posts) {
            return NONE;
        }
        sights.lookAt(wall, wall.hour);
        for (int post = 0; post < MOST_POSTS; post++) {
            order.giveKey(post, keyOf(kind, post));
        }
        return order.at(place, wall.posts);
    }

    // ---- lines, texts, accounts

    public int describe(int post) {
        if (!wall.isPost(post)) {
            return NONE;
        }
        line.clear();
        line.putNumber(post);
        putMarked('@', wall.numberOf(post, 0));
        putMarked('<', wall.numberOf(post, 1));
        putMarked('>', wall.numberOf(post, 2));
        if (wall.numberOf(post, 4) > 0) {
            putMarked('!', wall.numberOf(post, 3));
            putMarked('+', wall.numberOf(post, 4));
        }
        if (wall.numberOf(post, 5) == 1) {
            line.put('*');
        }
        return line.length;
    }

    public int show() {
        sights.lookAt(wall, wall.hour);
        line.clear();
        for (int stone = 0; stone < STONES; stone++) {
            line.put(signFor(Integer.bitCount(sights.seersOf(stone) & sights.manned)));
        }
        return line.length;
    }

    public int sign(int index) {
        return line.codeAt(index);
    }

    public int append(int code) {
        if (code < 32 || code > 126) {
            return BAD;
        }
        return text.put(code);
    }

    public int read() {
        int fault = text.findFault();
        if (fault != NONE) {
            text.clear();
            return -100 - fault;
        }
        before.copyFrom(wall);
        int answer = kept(carryOutAll());
        if (answer < 0) {
            wall.copyFrom(before);
        }
        commandNow = NOTHING;
        text.clear();
        return answer;
    }

    public int refusal(int what) {
        if (what < 0 || what > 2) {
            return BAD;
        }
        return refused.numberOf(what);
    }

    public int account(int what) {
        if (what < 0 || what > 12) {
            return BAD;
        }
        if (what == 11) {
            return text.length;
        }
        if (what == 12) {
            return past.many;
        }
        return what >= 7 ? wall.accountOf(what) : sightAccount(what);
    }

    public int isWell() {
        sights.lookAt(wall, wall.hour);
        chooser.trySets(sights);
        int told = chooser.best;
        if (told != chooser.searchStones(sights)) {
            return 0;
        }
        if (told != NOTHING && sights.seenBySet(told) != ALL_STONES) {
            return 0;
        }
        int watched = sights.seenBySet(sights.manned);
        gaps.find(watched);
        return Integer.bitCount(watched) + gaps.lengthOfAll() == STONES ? 1 : 0;
    }

    public int mean() {
        sights.lookAt(wall, wall.hour);
        int sum = 0;
        for (int post = 0; post < MOST_POSTS; post++) {
            if (isIn(sights.manned, post)) {
                sum += sights.manySeen(post);
            }
        }
        return bitsOf((float) sum / (float) STONES);
    }

    // ---- undo and snapshot

    public int undo() {
        if (past.many <= 0) {
            return NOTHING;
        }
        past.takeBack(wall);
        return past.many;
    }

    public int save() {
        snapshot.copyFrom(wall);
        hasSnapshot = true;
        return wall.posts;
    }

    public int restore() {
        if (!hasSnapshot) {
            return NOTHING;
        }
        wall.copyFrom(snapshot);
        past.forget();
        return wall.posts;
    }

    // ---- the changes, as calls and texts share them

    /** A change that succeeded can be undone to the wall before it. */
    private int kept(int answer) {
        if (answer >= 0) {
            past.keep(before);
        }
        return answer;
    }

    private int refuse(int reason, int detail) {
        refused.tell(reason, detail, commandNow);
        return REFUSED;
    }

    private int buildPost(int stone, int left, int right) {
        if (!isStone(stone)) {
            return NONE;
        }
        if (!isReach(left) || !isReach(right)) {
            return BAD;
        }
        int there = wall.postOn(stone);
        if (there != NONE) {
            return refuse(STONE_TAKEN, there);
        }
        if (wall.posts >= MOST_POSTS) {
            return refuse(NO_PLACE_LEFT, MOST_POSTS);
        }
        return wall.add(stone, left, right);
    }

    private int tearDown(int post) {
        if (!wall.isPost(post)) {
            return NONE;
        }
        wall.remove(post);
        return wall.posts;
    }

    private int tellReaches(int post, int left, int right) {
        if (!wall.isPost(post)) {
            return NONE;
        }
        if (!isReach(left) || !isReach(right)) {
            return BAD;
        }
        int oldLeft = wall.left[post];
        int oldRight = wall.right[post];
        if (oldLeft == left && oldRight == right) {
            return refuse(SO_ALREADY, left);
        }
        wall.left[post] = left;
        wall.right[post] = right;
        return 100 * oldLeft + oldRight;
    }

    private int tellBlindAngle(int post, int stone, int many) {
        if (!wall.isPost(post) || !isStone(stone)) {
            return NONE;
        }
        if (many < 1 || many > MOST_BLIND) {
            return BAD;
        }
        if (wall.blindFrom[post] == stone && wall.blindMany[post] == many) {
            return refuse(SO_ALREADY, stone);
        }
        wall.blindFrom[post] = stone;
        wall.blindMany[post] = many;
        return DONE;
    }

    private int dropBlindAngle(int post) {
        if (!wall.isPost(post)) {
            return NONE;
        }
        if (wall.blindMany[post] == 0) {
            return refuse(NO_BLIND_ANGLE, post);
        }
        wall.blindFrom[post] = NOTHING;
        wall.blindMany[post] = 0;
        return DONE;
    }

    private int letBeManned(int post, int isManned) {
        if (!wall.isPost(post)) {
            return NONE;
        }
        if (isManned != 0 && isManned != 1) {
            return BAD;
        }
        if (wall.manned[post] == isManned) {
            return refuse(SO_ALREADY, isManned);
        }
        wall.manned[post] = isManned;
        return DONE;
    }

    private int tellHour(int hour) {
        if (!isHour(hour)) {
            return BAD;
        }
        int old = wall.hour;
        if (old == hour) {
            return refuse(SO_ALREADY, hour);
        }
        wall.hour = hour;
        return old;
    }

    private int manFewest() {
        sights.lookAt(wall, wall.hour);
        chooser.trySets(sights);
        if (chooser.best == NOTHING) {
            return refuse(NO_FULL_WATCH, manyUnseen());
        }
        wall.manJust(chooser.best);
        return Integer.bitCount(chooser.best);
    }

    /** Carries out the text, which has no fault, up to the first command that fails. */
    private int carryOutAll() {
        text.rewind();
        int done = 0;
        for (int n = 0; n < MOST_TEXT && text.takeCommand(); n++) {
            commandNow = n;
            int answer = carryOut();
            if (answer < 0) {
                return answer == REFUSED ? REFUSED : BAD;
            }
            done++;
            text.skip(';');
        }
        return done;
    }

    private int carryOut() {
        switch (text.letter) {
            case 'p': return buildPost(text.first, text.second, text.third);
            case '-': return tearDown(text.first);
            case 'r': return tellReaches(text.first, text.second, text.third);
            case 'b': return tellBlindAngle(text.first, text.second, text.third);
            case 'n': return dropBlindAngle(text.first);
            case 'm': return letBeManned(text.first, 1);
            case 'l': return letBeManned(text.first, 0);
            case 'h': return tellHour(text.first);
            case 'w': return manFewest();
            default: return BAD;
        }
    }

    // ---- what several calls ask

    private int manySeenNow(int post) {
        sights.lookAt(wall, wall.hour);
        return sights.manySeen(post);
    }

    private int manyWatchedNow() {
        sights.lookAt(wall, wall.hour);
        return Integer.bitCount(sights.seenBySet(sights.manned));
    }

    private int manyUnseen() {
        return STONES - Integer.bitCount(sights.seenBySet(ALL_POSTS));
    }

    private int closingMost(int mannedThen) {
        int open = ALL_STONES & ~sights.seenBySet(mannedThen);
        return sights.bestAmong(ALL_POSTS & ~mannedThen, open);
    }

    private int keyOf(int kind, int post) {
        if (kind == 0) {
            return sights.manySeen(post);
        }
        return kind == 1 ? -wall.numberOf(post, 0) : sights.manySeenAlone(post);
    }

    private int sightAccount(int what) {
        sights.lookAt(wall, wall.hour);
        int watched = sights.seenBySet(sights.manned);
        gaps.find(watched);
        switch (what) {
            case 0: return wall.posts;
            case 1: return Integer.bitCount(sights.manned);
            case 2: return Integer.bitCount(watched);
            case 3: return sights.overlaps();
            case 4: return gaps.many;
            case 5: return gaps.longest();
            default: return manyUnseen();
        }
    }

    private void putMarked(int mark, int number) {
        line.put(mark);
        line.putNumber(number);
    }

    private static int signFor(int sentries) {
        if (sentries == 0) {
            return '.';
        }
        return sentries > 9 ? '+' : '0' + sentries;
    }

    private static boolean isStone(int stone) {
        return stone >= 0 && stone < STONES;
    }

    private static boolean isReach(int reach) {
        return reach >= 0 && reach <= MOST_REACH;
    }

    private static boolean isHour(int hour) {
        return hour >= 0 && hour <= LAST_HOUR;
    }

    private static boolean isIn(int set, int member) {
        return ((set >>> member) & 1) == 1;
    }

    /** The stones of a set, each so many (0 to 23) to the right round the ring. */
    private static int turned(int stones, int by) {
        return ((stones << by) | (stones >>> (STONES - by))) & ALL_STONES;
    }

    /** A row of at most 24 stones, from one on to the right; what goes beyond the last comes in at the first. */
    private static int stretch(int from, int many) {
        long straight = ((1L << many) - 1L) << from;
        return (int) ((straight | straight >>> STONES) & ALL_STONES);
    }

    /** The bits of a float that is 0 or a normal number above it: the library's own function is not to be called. */
    private static int bitsOf(float value) {
        if (!(value > 0f)) {
            return 0;
        }
        float rest = value;
        int power = 127;
        for (int n = 0; n < 127 && rest >= 2f; n++) {
            rest = rest / 2f;
            power++;
        }
        for (int n = 0; n < 126 && rest < 1f; n++) {
            rest = rest * 2f;
            power--;
        }
        return (power << 23) | (int) ((rest - 1f) * 8388608f);
    }

    /** All that changes can change. Places without a post have the stone NONE and are not manned. */
    private static final class Wall {
        final int[] stone = new int[MOST_POSTS];
        final int[] left = new int[MOST_POSTS];
        final int[] right = new int[MOST_POSTS];
        final int[] blindFrom = new int[MOST_POSTS];
        final int[] blindMany = new int[MOST_POSTS];
        final int[] manned = new int[MOST_POSTS];
        int posts;
        int hour;
        int built;
        int torn;
        int timesManned;

        Wall() {
            for (int post = 0; post < MOST_POSTS; post++) {
                empty(post);
            }
        }

        void copyFrom(Wall other) {
            for (int post = 0; post < MOST_POSTS; post++) {
                copyPlace(other, post, post);
            }
            posts = other.posts;
            hour = other.hour;
            built = other.built;
            torn = other.torn;
            timesManned = other.timesManned;
        }

        boolean isPost(int post) {
            return post >= 0 && post < MOST_POSTS && stone[post] != NONE;
        }

        int postOn(int wanted) {
            for (int post = 0; post < MOST_POSTS; post++) {
                if (stone[post] == wanted) {
                    return post;
                }
            }
            return NONE;
        }

        int add(int itsStone, int itsLeft, int itsRight) {
            int post = postOn(NONE);
            if (post != NONE) {
                stone[post] = itsStone;
                left[post] = itsLeft;
                right[post] = itsRight;
                posts++;
                built++;
            }
            return post;
        }

        void remove(int gone) {
            for (int post = gone; post >= 0 && post < MOST_POSTS - 1; post++) {
                copyPlace(this, post + 1, post);
            }
            empty(MOST_POSTS - 1);
            posts--;
            torn++;
        }

        void manJust(int set) {
            for (int post = 0; post < MOST_POSTS; post++) {
                manned[post] = (set >>> post) & 1;
            }
            timesManned++;
        }

        int numberOf(int post, int what) {
            if (!isPost(post)) {
                return NONE;
            }
            switch (what) {
                case 0: return stone[post];
                case 1: return left[post];
                case 2: return right[post];
                case 3: return blindFrom[post];
                case 4: return blindMany[post];
                default: return manned[post];
            }
        }

        int accountOf(int what) {
            switch (what) {
                case 7: return hour;
                case 8: return built;
                case 9: return torn;
                default: return timesManned;
            }
        }

        /** The stones that a post sees in some hour, as bits. */
        int sightOf(int post, int atHour) {
            if (!isPost(post)) {
                return 0;
            }
            int lost = lostByLight(atHour);
            int toLeft = Math.max(0, left[post] - lost);
            int toRight = Math.max(0, right[post] - lost);
            int from = stone[post] - toLeft;
            int seen = stretch(from < 0 ? from + STONES : from, toLeft + 1 + toRight);
            return blindMany[post] == 0 ? seen : seen & ~stretch(blindFrom[post], blindMany[post]);
        }

        private static int lostByLight(int atHour) {
            if (atHour < 6) {
                return 0;
            }
            if (atHour < 8) {
                return 1;
            }
            return atHour < 10 ? 2 : 3;
        }

        private void copyPlace(Wall other, int from, int to) {
            stone[to] = other.stone[from];
            left[to] = other.left[from];
            right[to] = other.right[from];
            blindFrom[to] = other.blindFrom[from];
            blindMany[to] = other.blindMany[from];
            manned[to] = other.manned[from];
        }

        private void empty(int post) {
            stone[post] = NONE;
            left[post] = 0;
            right[post] = 0;
            blindFrom[post] = NOTHING;
            blindMany[post] = 0;
            manned[post] = 0;
        }
    }

    /** The latest walls before a change, in a ring of which the oldest is given up first. */
    private static final class Past {
        private final Wall[] walls = new Wall[MOST_UNDO];
        private int top;
        int many;

        Past() {
            for (int n = 0; n < MOST_UNDO; n++) {
                walls[n] = new Wall();
            }
        }

        void keep(Wall wall) {
            Wall place = walls[top & (MOST_UNDO - 1)];
            if (place != null) {
                place.copyFrom(wall);
            }
            top++;
            many = Math.min(many + 1, MOST_UNDO);
        }

        void takeBack(Wall wall) {
            top--;
            many--;
            Wall place = walls[top & (MOST_UNDO - 1)];
            if (place != null) {
                wall.copyFrom(place);
            }
        }

        void forget() {
            many = 0;
        }
    }

    /** What each post sees in some hour, stones and posts as bits. Places without a post see nothing. */
    private static final class Sights {
        private final int[] row = new int[MOST_POSTS];
        int posts;
        int manned;

        void lookAt(Wall wall, int hour) {
            posts = wall.posts;
            manned = 0;
            for (int post = 0; post < MOST_POSTS; post++) {
                row[post] = wall.sightOf(post, hour);
                manned |= wall.manned[post] << post;
            }
        }

        int of(int post) {
            return post >= 0 && post < MOST_POSTS ? row[post] : 0;
        }

        int manySeen(int post) {
            return Integer.bitCount(of(post));
        }

        int manySeenAlone(int post) {
            return Integer.bitCount(of(post) & ~seenBySet(ALL_POSTS & ~(1 << post)));
        }

        int seenBySet(int set) {
            int seen = 0;
            for (int post = 0; post < MOST_POSTS; post++) {
                if (isIn(set, post)) {
                    seen |= row[post];
                }
            }
            return seen;
        }

        int seersOf(int stone) {
            int seers = 0;
            for (int post = 0; post < MOST_POSTS; post++) {
                seers |= ((row[post] >>> stone) & 1) << post;
            }
            return seers;
        }

        int overlaps() {
            int once = 0;
            int again = 0;
            for (int post = 0; post < MOST_POSTS; post++) {
                if (isIn(manned, post)) {
                    again |= once & row[post];
                    once |= row[post];
                }
            }
            return Integer.bitCount(again);
        }

        /** The lowest post of a set that sees the most of some stones, NOTHING if none sees any. */
        int bestAmong(int set, int stones) {
            int best = NOTHING;
            int most = 0;
            for (int post = 0; post < MOST_POSTS; post++) {
                int many = isIn(set, post) ? Integer.bitCount(row[post] & stones) : 0;
                if (many > most) {
                    best = post;
                    most = many;
                }
            }
            return best;
        }
    }

    /** Finds the fewest watch in two ways that share nothing but the sights. */
    private static final class Chooser {
        private final int[] seenBySet = new int[1 << MOST_POSTS];
        private final int[] seers = new int[STONES];
        int best;
        int ways;
        int inEach;

        void trySets(Sights sights) {
            best = NOTHING;
            ways = 0;
            inEach = 0;
            int fewest = MOST_POSTS + 1;
            int sets = 1 << sights.posts;
            fillSets(sights);
            for (int set = 0; set < sets && set < seenBySet.length; set++) {
                int size = Integer.bitCount(set);
                if (seenBySet[set] != ALL_STONES || size > fewest) {
                    continue;
                }
                if (size < fewest) {
                    fewest = size;
                    best = set;
                    ways = 0;
                    inEach = set;
                }
                ways++;
                inEach &= set;
            }
        }

        /** Each post doubles the sets: those without it, and the same with it. */
        private void fillSets(Sights sights) {
            seenBySet[0] = 0;
            for (int post = 0; post < MOST_POSTS && post < sights.posts; post++) {
                int more = sights.of(post);
                int without = 1 << post;
                for (int set = 0; set < without && without + set < seenBySet.length; set++) {
                    seenBySet[without + set] = seenBySet[set] | more;
                }
            }
        }

        int searchStones(Sights sights) {
            for (int stone = 0; stone < STONES; stone++) {
                seers[stone] = sights.seersOf(stone);
            }
            return search(sights, seers, ALL_STONES, 0, NOTHING, 0);
        }

        /** The better of the best so far and the best full watch with the posts chosen so far. */
        private static int search(Sights sights, int[] seers, int left, int chosen, int best, int depth) {
            if (left == 0) {
                return better(chosen, best);
            }
            if (depth >= MOST_POSTS || (best != NOTHING && depth >= Integer.bitCount(best))) {
                return best;
            }
            int candidates = fewestSeers(seers, left);
            int found = best;
            for (int post = 0; post < MOST_POSTS; post++) {
                if (isIn(candidates, post)) {
                    found = search(sights, seers, left & ~sights.of(post), chosen | 1 << post, found, depth + 1);
                }
            }
            return found;
        }

        /** Who sees the stone, of those left, that the fewest see. */
        private static int fewestSeers(int[] seers, int left) {
            int found = 0;
            int fewest = MOST_POSTS + 1;
            for (int stone = 0; stone < STONES && stone < seers.length; stone++) {
                int many = Integer.bitCount(seers[stone]);
                if (isIn(left, stone) && many < fewest) {
                    fewest = many;
                    found = seers[stone];
                }
            }
            return found;
        }

        private static int better(int set, int best) {
            if (best == NOTHING) {
                return set;
            }
            int more = Integer.bitCount(set) - Integer.bitCount(best);
            return more < 0 || (more == 0 && set < best) ? set : best;
        }
    }

    /** The gaps of the wall, in the order of their first stones. */
    private static final class Gaps {
        private final int[] first = new int[MOST_GAPS];
        private final int[] length = new int[MOST_GAPS];
        int many;

        void find(int watched) {
            many = 0;
            if (watched == 0) {
                add(0, STONES);
                return;
            }
            int afterWatched = turned(watched, 1);
            for (int stone = 0; stone < STONES; stone++) {
                if (!isIn(watched, stone) && isIn(afterWatched, stone)) {
                    add(stone, openFrom(watched, stone));
                }
            }
        }

        private static int openFrom(int watched, int stone) {
            int place = stone;
            for (int n = 0; n < STONES; n++) {
                if (isIn(watched, place)) {
                    return n;
                }
                place = place == STONES - 1 ? 0 : place + 1;
            }
            return STONES;
        }

        private void add(int itsFirst, int itsLength) {
            if (many >= 0 && many < MOST_GAPS) {
                first[many] = itsFirst;
                length[many] = itsLength;
                many++;
            }
        }

        boolean isGap(int gap) {
            return gap >= 0 && gap < many && gap < MOST_GAPS;
        }

        int firstOf(int gap) {
            return isGap(gap) ? first[gap] : 0;
        }

        int lengthOf(int gap) {
            return isGap(gap) ? length[gap] : 0;
        }

        int lengthOfAll() {
            int sum = 0;
            for (int gap = 0; gap < MOST_GAPS; gap++) {
                sum += lengthOf(gap);
            }
            return sum;
        }

        int longest() {
            int most = 0;
            for (int gap = 0; gap < MOST_GAPS; gap++) {
                most = Math.max(most, lengthOf(gap));
            }
            return most;
        }
    }

    /** Posts by a key, the greatest first, of several the lowest. */
    private static final class Order {
        private final int[] key = new int[MOST_POSTS];

        void giveKey(int post, int itsKey) {
            if (post >= 0 && post < MOST_POSTS) {
                key[post] = itsKey;
            }
        }

        int at(int place, int posts) {
            for (int post = 0; post < MOST_POSTS; post++) {
                if (post < posts && placeOf(post, posts) == place) {
                    return post;
                }
            }
            return NONE;
        }

        private int placeOf(int post, int posts) {
            int ahead = 0;
            for (int other = 0; other < MOST_POSTS && other < posts; other++) {
                if (key[other] > key[post] || (key[other] == key[post] && other < post)) {
                    ahead++;
                }
            }
            return ahead;
        }
    }

    /** The text of commands, and a reader that stands still at the first fault. */
    private static final class Text {
        private final int[] codes = new int[MOST_TEXT];
        private int at;
        int length;
        int letter;
        int first;
        int second;
        int third;

        int put(int code) {
            if (length < 0 || length >= MOST_TEXT) {
                return BAD;
            }
            codes[length] = code;
            length++;
            return length;
        }

        void clear() {
            length = 0;
        }

        void rewind() {
            at = 0;
        }

        /** The fault position, NONE without a fault. */
        int findFault() {
            rewind();
            for (int n = 0; n < MOST_TEXT && takeCommand(); n++) {
                if (at >= length) {
                    return NONE;
                }
                if (!skip(';')) {
                    return at;
                }
            }
            return at;
        }

        boolean takeCommand() {
            letter = codeHere();
            if (!skip(letter)) {
                return false;
            }
            switch (letter) {
                case 'p':
                    return takeFirst(2) && skip('<') && takeSecond(2) && skip('>') && takeThird(2);
                case 'r':
                    return takeFirst(1) && skip('<') && takeSecond(2) && skip('>') && takeThird(2);
                case 'b':
                    return takeFirst(1) && skip('!') && takeSecond(2) && skip('+') && takeThird(1);
                case '-':
                case 'n':
                case 'm':
                case 'l':
                    return takeFirst(1);
                case 'h':
                    return takeFirst(2);
                case 'w':
                    return true;
                default:
                    at--;
                    return false;
            }
        }

        boolean skip(int mark) {
            if (codeHere() != mark || mark == NONE) {
                return false;
            }
            at++;
            return true;
        }

        private boolean takeFirst(int digits) {
            first = takeNumber(digits);
            return first != NONE;
        }

        private boolean takeSecond(int digits) {
            second = takeNumber(digits);
            return second != NONE;
        }

        private boolean takeThird(int digits) {
            third = takeNumber(digits);
            return third != NONE;
        }

        /** A number of one up to so many digits, NONE without a digit. */
        private int takeNumber(int digits) {
            int number = NONE;
            for (int n = 0; n < digits; n++) {
                int code = codeHere();
                if (code < '0' || code > '9') {
                    break;
                }
                number = (n == 0 ? 0 : 10 * number) + code - '0';
                at++;
            }
            return number;
        }

        private int codeHere() {
            return at >= 0 && at < length && at < MOST_TEXT ? codes[at] : NONE;
        }
    }

    /** The line that was written last. */
    private static final class Line {
        private final int[] codes = new int[LONGEST_LINE];
        int length;

        void clear() {
            length = 0;
        }

        void put(int code) {
            if (length >= 0 && length < LONGEST_LINE) {
                codes[length] = code;
                length++;
            }
        }

        /** Every number of a line has one or two digits. */
        void putNumber(int number) {
            if (number >= 10) {
                put('0' + number / 10);
            }
            put('0' + number % 10);
        }

        int codeAt(int index) {
            return index >= 0 && index < length && index < LONGEST_LINE ? codes[index] : NONE;
        }
    }

    /** What was refused last; the reason 0 stands for nothing yet. */
    private static final class Refused {
        private int reason;
        private int detail;
        private int command;

        void tell(int itsReason, int itsDetail, int itsCommand) {
            reason = itsReason;
            detail = itsDetail;
            command = itsCommand;
        }

        int numberOf(int what) {
            if (reason == 0) {
                return NOTHING;
            }
            if (what == 0) {
                return reason;
            }
            return what == 1 ? detail : command;
        }
    }
}
