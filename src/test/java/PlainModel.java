import java.util.ArrayDeque;
import java.util.ArrayList;
import java.util.Deque;
import java.util.List;
import java.util.regex.Matcher;
import java.util.regex.Pattern;

/** The document once more, in the plainest words and with the Java library, to compare the class with. */
final class PlainModel {
    static final int NONE = -1;
    static final int BAD = -2;
    static final int REFUSED = -3;
    static final int NOTHING = -4;

    private static final class Post {
        int stone;
        int left;
        int right;
        int blindStone = NOTHING;
        int blindMany;
        boolean manned;

        Post copy() {
            Post p = new Post();
            p.stone = stone;
            p.left = left;
            p.right = right;
            p.blindStone = blindStone;
            p.blindMany = blindMany;
            p.manned = manned;
            return p;
        }

        boolean[] seen(int hour) {
            int[] less = {0, 0, 0, 0, 0, 0, 1, 1, 2, 2, 3, 3};
            boolean[] seen = new boolean[24];
            seen[stone] = true;
            for (int n = 1; n <= left - less[hour]; n++) {
                seen[Math.floorMod(stone - n, 24)] = true;
            }
            for (int n = 1; n <= right - less[hour]; n++) {
                seen[(stone + n) % 24] = true;
            }
            for (int n = 0; n < blindMany; n++) {
                seen[(blindStone + n) % 24] = false;
            }
            return seen;
        }
    }

    private static final class State {
        List<Post> posts = new ArrayList<>();
        int hour;
        int built;
        int torn;
        int watchManned;

        State copy() {
            State s = new State();
            for (Post p : posts) {
                s.posts.add(p.copy());
            }
            s.hour = hour;
            s.built = built;
            s.torn = torn;
            s.watchManned = watchManned;
            return s;
        }
    }

    private static final String HAND = "[0-9]";
    private static final String NUMBER = "[0-9][0-9]?";
    private static final String COMMAND = "(?:p" + NUMBER + "<" + NUMBER + ">" + NUMBER + "|-" + HAND
        + "|r" + HAND + "<" + NUMBER + ">" + NUMBER + "|b" + HAND + "!" + NUMBER + "\\+" + HAND
        + "|[nml]" + HAND + "|h" + NUMBER + "|w)";
    private static final Pattern TEXT = Pattern.compile(COMMAND + "(?:;" + COMMAND + ")*");

    private State now = new State();
    private State saved = null;
    private final Deque<State> past = new ArrayDeque<>();
    private String text = "";
    private String line = "";
    private int[] refusal = null;
    private int command = NOTHING;

    // ---- what the terms say

    private boolean isPost(int post) {
        return post >= 0 && post < now.posts.size();
    }

    private static boolean isStone(int stone) {
        return stone >= 0 && stone <= 23;
    }

    private boolean[] seenBySet(int set, int hour) {
        boolean[] all = new boolean[24];
        for (int k = 0; k < now.posts.size(); k++) {
            if ((set >> k & 1) == 1) {
                boolean[] seen = now.posts.get(k).seen(hour);
                for (int s = 0; s < 24; s++) {
                    all[s] |= seen[s];
                }
            }
        }
        return all;
    }

    private static int count(boolean[] stones) {
        int n = 0;
        for (boolean b : stones) {
            n += b ? 1 : 0;
        }
        return n;
    }

    private int mannedSet() {
        int set = 0;
        for (int k = 0; k < now.posts.size(); k++) {
            set += now.posts.get(k).manned ? 1 << k : 0;
        }
        return set;
    }

    private int everyPost() {
        return (1 << now.posts.size()) - 1;
    }

    private boolean[] watchedStones() {
        return seenBySet(mannedSet(), now.hour);
    }

    private List<Integer> fewestWatches(int hour) {
        for (int size = 0; size <= 9; size++) {
            List<Integer> found = new ArrayList<>();
            for (int set = 0; set <= everyPost(); set++) {
                if (Integer.bitCount(set) == size && count(seenBySet(set, hour)) == 24) {
                    found.add(set);
                }
            }
            if (!found.isEmpty()) {
                return found;
            }
        }
        return new ArrayList<>();
    }

    private List<List<Integer>> gaps() {
        boolean[] watched = watchedStones();
        List<List<Integer>> gaps = new ArrayList<>();
        if (count(watched) == 0) {
            List<Integer> ring = new ArrayList<>();
            for (int s = 0; s < 24; s++) {
                ring.add(s);
            }
            gaps.add(ring);
            return gaps;
        }
        for (int first = 0; first < 24; first++) {
            if (!watched[first] && watched[(first + 23) % 24]) {
                List<Integer> gap = new ArrayList<>();
                for (int s = first; !watched[s]; s = (s + 1) % 24) {
                    gap.add(s);
                }
                gaps.add(gap);
            }
        }
        return gaps;
    }

    private int seenCount(int post) {
        return count(now.posts.get(post).seen(now.hour));
    }

    private int seenAlone(int post) {
        int n = 0;
        for (int s = 0; s < 24; s++) {
            n += seenBy(s) == 1 << post ? 1 : 0;
        }
        return n;
    }

    private int refuse(int reason, int detail) {
        refusal = new int[] {reason, detail, command};
        return REFUSED;
    }

    private void remember(State before) {
        past.addLast(before);
        if (past.size() > 8) {
            past.removeFirst();
        }
    }

    private int changed(State before, int answer) {
        if (answer >= 0 && command == NOTHING) {
            remember(before);
        }
        return answer;
    }

    // ---- posts

    int post(int stone, int left, int right) {
        if (!isStone(stone)) {
            return NONE;
        }
        if (left < 0 || left > 11 || right < 0 || right > 11) {
            return BAD;
        }
        for (int k = 0; k < now.posts.size(); k++) {
            if (now.posts.get(k).stone == stone) {
                return refuse(2, k);
            }
        }
        if (now.posts.size() == 9) {
            return refuse(1, 9);
        }
        State before = now.copy();
        Post p = new Post();
        p.stone = stone;
        p.left = left;
        p.right = right;
        now.posts.add(p);
        now.built++;
        return changed(before, now.posts.size() - 1);
    }

    int tear(int post) {
        if (!isPost(post)) {
            return NONE;
        }
        State before = now.copy();
        now.posts.remove(post);
        now.torn++;
        return changed(before, now.posts.size());
    }

    int reach(int post, int left, int right) {
        if (!isPost(post)) {
            return NONE;
        }
        if (left < 0 || left > 11 || right < 0 || right > 11) {
            return BAD;
        }
        State before = now.copy();
        Post p = now.posts.get(post);
        if (p.left == left && p.right == right) {
            return refuse(3, left);
        }
        int answer = p.left * 100 + p.right;
        p.left = left;
        p.right = right;
        return changed(before, answer);
    }

    int blind(int post, int stone, int many) {
        if (!isPost(post) || !isStone(stone)) {
            return NONE;
        }
        if (many < 1 || many > 8) {
            return BAD;
        }
        State before = now.copy();
        Post p = now.posts.get(post);
        if (p.blindMany == many && p.blindStone == stone) {
            return refuse(3, stone);
        }
        p.blindStone = stone;
        p.blindMany = many;
        return changed(before, seenCount(post));
    }

    int see(int post) {
        if (!isPost(post)) {
            return NONE;
        }
        State before = now.copy();
        Post p = now.posts.get(post);
        if (p.blindMany == 0) {
            return refuse(5, post);
        }
        p.blindStone = NOTHING;
        p.blindMany = 0;
        return changed(before, seenCount(post));
    }

    int man(int post, int isManned) {
        if (!isPost(post)) {
            return NONE;
        }
        if (isManned < 0 || isManned > 1) {
            return BAD;
        }
        State before = now.copy();
        Post p = now.posts.get(post);
        if (p.manned == (isManned == 1)) {
            return refuse(3, isManned);
        }
        p.manned = isManned == 1;
        return changed(before, count(watchedStones()));
    }

    int hour(int hour) {
        if (hour < 0 || hour > 11) {
            return BAD;
        }
        if (hour == now.hour) {
            return refuse(3, hour);
        }
        State before = now.copy();
        now.hour = hour;
        return changed(before, before.hour);
    }

    int watch() {
        int told = fewest();
        if (told == NOTHING) {
            return refuse(4, 24 - count(seenBySet(everyPost(), now.hour)));
        }
        State before = now.copy();
        for (int k = 0; k < now.posts.size(); k++) {
            now.posts.get(k).manned = (told >> k & 1) == 1;
        }
        now.watchManned++;
        return changed(before, Integer.bitCount(told));
    }

    // ---- what is seen

    int postOf(int post, int what) {
        if (!isPost(post)) {
            return NONE;
        }
        Post p = now.posts.get(post);
        switch (what) {
            case 0: return p.stone;
            case 1: return p.left;
            case 2: return p.right;
            case 3: return p.blindStone;
            case 4: return p.blindMany;
            case 5: return p.manned ? 1 : 0;
            case 6: return seenCount(post);
            case 7: return seenAlone(post);
            case 8: return isNeeded(post);
            default: return BAD;
        }
    }

    private int isNeeded(int post) {
        List<Integer> all = fewestWatches(now.hour);
        for (int set : all) {
            if ((set >> post & 1) == 0) {
                return 0;
            }
        }
        return all.isEmpty() ? 0 : 1;
    }

    int sees(int post, int stone) {
        if (!isPost(post) || !isStone(stone)) {
            return NONE;
        }
        return now.posts.get(post).seen(now.hour)[stone] ? 1 : 0;
    }

    int watched(int stone) {
        return isStone(stone) ? Integer.bitCount(seenBy(stone) & mannedSet()) : NONE;
    }

    int seenBy(int stone) {
        if (!isStone(stone)) {
            return NONE;
        }
        int set = 0;
        for (int k = 0; k < now.posts.size(); k++) {
            set += sees(k, stone) << k;
        }
        return set;
    }

    int gapOf(int gap, int what) {
        List<List<Integer>> gaps = gaps();
        if (gap < 0 || gap >= gaps.size()) {
            return NONE;
        }
        List<Integer> stones = gaps.get(gap);
        if (what == 0) {
            return stones.get(0);
        }
        if (what == 1) {
            return stones.size();
        }
        if (what != 2) {
            return BAD;
        }
        int best = NOTHING;
        int most = 0;
        for (int k = 0; k < now.posts.size(); k++) {
            int n = 0;
            for (int s : stones) {
                n += sees(k, s);
            }
            if (n > most) {
                most = n;
                best = k;
            }
        }
        return best;
    }

    // ---- watches

    int fewest() {
        List<Integer> all = fewestWatches(now.hour);
        return all.isEmpty() ? NOTHING : all.get(0);
    }

    int fewestAgain() {
        return fewest();
    }

    int watches() {
        return fewestWatches(now.hour).size();
    }

    int isFull(int set) {
        if (set < 0 || set > everyPost()) {
            return NONE;
        }
        return count(seenBySet(set, now.hour)) == 24 ? 1 : 0;
    }

    int spare() {
        int staying = mannedSet();
        int watched = count(watchedStones());
        int left = 0;
        boolean someone = true;
        while (someone) {
            someone = false;
            for (int k = 8; k >= 0 && !someone; k--) {
                if ((staying >> k & 1) == 1 && count(seenBySet(staying - (1 << k), now.hour)) == watched) {
                    staying -= 1 << k;
                    left++;
                    someone = true;
                }
            }
        }
        return left;
    }

    private int closer(int manned) {
        int best = NOTHING;
        int most = count(seenBySet(manned, now.hour));
        for (int k = 0; k < now.posts.size(); k++) {
            int n = count(seenBySet(manned | 1 << k, now.hour));
            if (n > most) {
                most = n;
                best = k;
            }
        }
        return best;
    }

    int next() {
        return closer(mannedSet());
    }

    int greedy() {
        int manned = mannedSet();
        for (int k = closer(manned); k != NOTHING; k = closer(manned)) {
            manned |= 1 << k;
        }
        return Integer.bitCount(manned);
    }

    // ---- what would be, orders

    int wouldNeed(int hour) {
        if (hour < 0 || hour > 11) {
            return BAD;
        }
        List<Integer> all = fewestWatches(hour);
        return all.isEmpty() ? NOTHING : Integer.bitCount(all.get(0));
    }

    int wouldTurn(int by) {
        if (by < 0 || by > 23) {
            return BAD;
        }
        State before = now;
        now = before.copy();
        for (Post p : now.posts) {
            p.stone = (p.stone + by) % 24;
            p.blindStone = (p.blindStone + by + 24) % 24;
        }
        int answer = count(watchedStones());
        now = before;
        return answer;
    }

    int ranked(int kind, int place) {
        if (kind < 0 || kind > 2) {
            return BAD;
        }
        if (place < 0 || place >= now.posts.size()) {
            return NONE;
        }
        List<Integer> order = new ArrayList<>();
        for (int k = 0; k < now.posts.size(); k++) {
            order.add(k);
        }
        if (kind == 1) {
            order.sort((a, b) -> now.posts.get(a).stone - now.posts.get(b).stone);
        } else if (kind == 0) {
            order.sort((a, b) -> seenCount(b) - seenCount(a));
        } else {
            order.sort((a, b) -> seenAlone(b) - seenAlone(a));
        }
        return order.get(place);
    }

    // ---- lines, texts, accounts

    int describe(int post) {
        if (!isPost(post)) {
            return NONE;
        }
        Post p = now.posts.get(post);
        line = post + "@" + p.stone + "<" + p.left + ">" + p.right
            + (p.blindMany > 0 ? "!" + p.blindStone + "+" + p.blindMany : "") + (p.manned ? "*" : "");
        return line.length();
    }

    int show() {
        line = "";
        for (int s = 0; s < 24; s++) {
            int n = watched(s);
            line += n == 0 ? "." : n > 9 ? "+" : "" + n;
        }
        return line.length();
    }

    int sign(int index) {
        return index >= 0 && index < line.length() ? line.charAt(index) : NONE;
    }

    int append(int code) {
        if (code < 32 || code > 126 || text.length() == 70) {
            return BAD;
        }
        text += (char) code;
        return text.length();
    }

    /** The fault position of the text, NONE if it has none. */
    private int fault() {
        for (int n = 1; n <= text.length(); n++) {
            Matcher m = TEXT.matcher(text.substring(0, n));
            if (!m.matches() && !m.hitEnd()) {
                return n - 1;
            }
        }
        return TEXT.matcher(text).matches() ? NONE : text.length();
    }

    int read() {
        int fault = fault();
        String told = text;
        text = "";
        if (fault != NONE) {
            return -100 - fault;
        }
        State before = now.copy();
        String[] commands = told.split(";");
        for (int n = 0; n < commands.length; n++) {
            command = n;
            int answer = carryOut(commands[n]);
            command = NOTHING;
            if (answer < 0) {
                now = before;
                return answer == REFUSED ? REFUSED : BAD;
            }
        }
        remember(before);
        return commands.length;
    }

    private int carryOut(String words) {
        List<Integer> n = new ArrayList<>();
        for (String part : words.substring(1).split("[<>!+]")) {
            if (!part.isEmpty()) {
                n.add(Integer.parseInt(part));
            }
        }
        switch (words.charAt(0)) {
            case 'p': return post(n.get(0), n.get(1), n.get(2));
            case '-': return tear(n.get(0));
            case 'r': return reach(n.get(0), n.get(1), n.get(2));
            case 'b': return blind(n.get(0), n.get(1), n.get(2));
            case 'n': return see(n.get(0));
            case 'm': return man(n.get(0), 1);
            case 'l': return man(n.get(0), 0);
            case 'h': return hour(n.get(0));
            default: return watch();
        }
    }

    int refusal(int what) {
        if (what < 0 || what > 2) {
            return BAD;
        }
        return refusal == null ? NOTHING : refusal[what];
    }

    int account(int what) {
        switch (what) {
            case 0: return now.posts.size();
            case 1: return Integer.bitCount(mannedSet());
            case 2: return count(watchedStones());
            case 3: return overlaps();
            case 4: return gaps().size();
            case 5: return gaps().stream().mapToInt(List::size).max().orElse(0);
            case 6: return 24 - count(seenBySet(everyPost(), now.hour));
            case 7: return now.hour;
            case 8: return now.built;
            case 9: return now.torn;
            case 10: return now.watchManned;
            case 11: return text.length();
            case 12: return past.size();
            default: return BAD;
        }
    }

    private int overlaps() {
        int n = 0;
        for (int s = 0; s < 24; s++) {
            n += watched(s) > 1 ? 1 : 0;
        }
        return n;
    }

    int isWell() {
        return 1;
    }

    int mean() {
        int sum = 0;
        for (int s = 0; s < 24; s++) {
            sum += watched(s);
        }
        return Float.floatToIntBits((float) sum / (float) 24);
    }

    // ---- undo and snapshot

    int undo() {
        if (past.isEmpty()) {
            return NOTHING;
        }
        now = past.removeLast();
        return past.size();
    }

    int save() {
        saved = now.copy();
        return now.posts.size();
    }

    int restore() {
        if (saved == null) {
            return NOTHING;
        }
        now = saved.copy();
        past.clear();
        return now.posts.size();
    }
}
