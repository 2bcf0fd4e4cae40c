import java.util.ArrayList;
import java.util.Arrays;
import java.util.List;
import java.util.Random;

/** Long runs of calls by chance (of fixed seeds), compared with a slow model that goes over all WAYS one by one. */
public final class ModelTest {
    private static final int BAD = -1, FULL = -2, FINDING = -3, STATE = -4, NONE = -9;
    /** An object is used for at most 512 calls: a LAND anew takes up to 83 of them, a turn without that up to 16. */
    private static final int RUNS = 12000, MOST_CALLS = 512, LAND_CALLS = 100, TURN_CALLS = 16;

    /** A LAND as the document tells it, in the Java library's terms. */
    private static final class Land {
        final List<Character> kinds = new ArrayList<>();
        final List<Integer> known = new ArrayList<>();
        final List<int[]> meetings = new ArrayList<>();
        final List<Post> posts = new ArrayList<>();
        int hour = 0;

        Land twin() {
            Land twin = new Land();
            twin.kinds.addAll(kinds);
            twin.known.addAll(known);
            twin.meetings.addAll(meetings);
            for (Post post : posts) {
                twin.posts.add(post.twin());
            }
            twin.hour = hour;
            return twin;
        }

        int size() {
            return kinds.size();
        }

        boolean is(int x) {
            return x >= 0 && x < size();
        }

        boolean knows(int x, int t) {
            return (known.get(x) & 1 << t) != 0;
        }

        boolean meet(int x, int y, int when) {
            for (int[] m : meetings) {
                boolean both = m[0] == x && m[1] == y || m[0] == y && m[1] == x;
                if (both && (when < 0 || when % 8 == m[2])) {
                    return true;
                }
            }
            return false;
        }

        boolean may(int x, int tongues) {
            char kind = kinds.get(x);
            if (kind == 'c' || kind == 'u' || kind == 'y') {
                return true;
            }
            for (int t = 0; t < 5; t++) {
                if ((tongues & 1 << t) != 0) {
                    if (knows(x, t)) {
                        return false;
                    }
                    if (kind == 's' && (t > 0 && knows(x, t - 1) || t < 4 && knows(x, t + 1))) {
                        return false;
                    }
                }
            }
            return true;
        }

        int price(int x, int tongues) {
            int price = 0;
            Land twin = twin();
            for (int t = 0; t < 5; t++) {
                if (knows(x, t)) {
                    twin.known.set(x, 1 << t);
                    price += twin.may(x, tongues) ? 0 : 1;
                }
            }
            return price;
        }

        /** All WAYS, if need be over such as may not carry it. */
        List<List<Integer>> ways(int x, int y, int tongues, boolean anybody) {
            List<List<Integer>> all = new ArrayList<>();
            List<Integer> way = new ArrayList<>();
            way.add(x);
            goOn(way, y, tongues, anybody, all);
            return all;
        }

        private void goOn(List<Integer> way, int y, int tongues, boolean anybody, List<List<Integer>> all) {
            int last = way.get(way.size() - 1);
            for (int next = 0; next < size(); next++) {
                if (way.contains(next) || !meet(last, next, -1)) {
                    continue;
                }
                boolean takes = next == y
                    || (anybody || may(next, tongues)) && (kinds.get(next) != 'u' || way.size() == 1);
                if (!takes) {
                    continue;
                }
                way.add(next);
                if (next == y) {
                    all.add(new ArrayList<>(way));
                } else {
                    goOn(way, y, tongues, anybody, all);
                }
                way.remove(way.size() - 1);
            }
        }

        int soon(int x, int y, int tongues, int from) {
            int soonest = NONE;
            for (List<Integer> way : ways(x, y, tongues, false)) {
                int h = from;
                for (int i = 0; i + 1 < way.size(); i++) {
                    while (h < 200 && !meet(way.get(i), way.get(i + 1), h)) {
                        h++;
                    }
                    h++;
                }
                if (h - from <= 40 && h - 1 <= 99 && (soonest == NONE || h - from < soonest)) {
                    soonest = h - from;
                }
            }
            return soonest;
        }

        boolean canTake(Post post, int x) {
            int holder = post.hands.get(post.hands.size() - 1);
            boolean first = post.hands.size() == 1;
            if (holder == post.to || !first && post.hours.get(post.hours.size() - 1) == hour) {
                return false;
            }
            if (post.hands.contains(x) || !meet(holder, x, hour)) {
                return false;
            }
            return x == post.to || may(x, post.tongues) && (kinds.get(x) != 'u' || first);
        }

        boolean give(Post post, int x) {
            int holder = post.hands.get(post.hands.size() - 1);
            if (kinds.get(holder) == 'l' || kinds.get(holder) == 'y') {
                known.set(holder, known.get(holder) | post.tongues);
            }
            post.hands.add(x);
            post.hours.add(hour);
            return x == post.to;
        }

        int reach(int x, int t) {
            int set = 0;
            for (int y = 0; y < size(); y++) {
                if (y != x && knows(x, t) && knows(y, t) && !ways(x, y, 1 << t, false).isEmpty()) {
                    set |= 1 << y;
                }
            }
            return set;
        }

        /** Of all pairs that KNOW a TONGUE in common the TONGUES in which there is a WAY. */
        List<Integer> pairs() {
            List<Integer> pairs = new ArrayList<>();
            for (int x = 0; x < size(); x++) {
                for (int y = 0; y < size(); y++) {
                    if (x != y && (known.get(x) & known.get(y)) != 0) {
                        int set = 0;
                        for (int t = 0; t < 5; t++) {
                            boolean both = knows(x, t) && knows(y, t);
                            set |= both && !ways(x, y, 1 << t, false).isEmpty() ? 1 << t : 0;
                        }
                        pairs.add(set);
                    }
                }
            }
            return pairs;
        }

        int cut() {
            int cut = 0;
            for (int set : pairs()) {
                cut += set == 0 ? 1 : 0;
            }
            return cut;
        }

        int cutIf(int x, int t) {
            Land twin = twin();
            twin.known.set(x, known.get(x) | 1 << t);
            return twin.cut();
        }
    }

    private static final class Post {
        int to;
        int tongues;
        final List<Integer> hands = new ArrayList<>();
        final List<Integer> hours = new ArrayList<>();

        Post twin() {
            Post twin = new Post();
            twin.to = to;
            twin.tongues = tongues;
            twin.hands.addAll(hands);
            twin.hours.addAll(hours);
            return twin;
        }

        boolean isThere() {
            return hands.get(hands.size() - 1) == to;
        }
    }

    /** The model of an object; its calls bear the names of the document. */
    private static final class Model {
        int[][] rows = new int[6][];
        byte[][] texts = new byte[4][];
        Land land = new Land();
        Land[] kept = new Land[3];
        int asked = 0;
        int finding = 0;
        int[] findings = new int[6];

        int found(int f) {
            finding = f;
            findings[f]++;
            return FINDING;
        }

        int tell(int v) {
            asked = v;
            return 1;
        }

        int row(int r, int n) {
            if (r < 0 || r > 5 || n > 40) return BAD;
            if (n < 0) return found(5);
            rows[r] = new int[n];
            return n;
        }

        int lay(int r, int i, int v) {
            if (r < 0 || r > 5) return BAD;
            if (rows[r] == null) return found(1);
            if (i < 0 || i >= rows[r].length) return found(2);
            int was = rows[r][i];
            rows[r][i] = v;
            return tell(was);
        }

        int at(int r, int i) {
            if (r < 0 || r > 5) return BAD;
            if (rows[r] == null) return found(1);
            if (i < 0 || i >= rows[r].length) return found(2);
            return tell(rows[r][i]);
        }

        int tear(int r) {
            if (r < 0 || r > 5) return BAD;
            if (rows[r] == null) return found(1);
            rows[r] = null;
            return 1;
        }

        int copy(int r, int i, int to, int j, int n) {
            if (r < 0 || r > 5 || to < 0 || to > 5) return BAD;
            if (n < 0) return found(5);
            if (rows[r] == null || rows[to] == null) return found(1);
            if (i < 0 || (long) i + n > rows[r].length || j < 0 || (long) j + n > rows[to].length) return found(2);
            int[] taken = Arrays.copyOfRange(rows[r], i, i + n);
            for (int k = 0; k < n; k++) rows[to][j + k] = taken[k];
            return 1;
        }

        int mean(int r) {
            if (r < 0 || r > 5) return BAD;
            if (rows[r] == null) return found(1);
            if (rows[r].length == 0) return found(4);
            return tell((int) (Arrays.stream(rows[r]).asLongStream().sum() / rows[r].length));
        }

        int text(int t, int n) {
            if (t < 0 || t > 3 || n > 80) return BAD;
            if (n < 0) return found(5);
            texts[t] = new byte[n];
            Arrays.fill(texts[t], (byte) ' ');
            return n;
        }

        int put(int t, int i, int v) {
            if (t < 0 || t > 3) return BAD;
            if (texts[t] == null) return found(1);
            if (i < 0 || i >= texts[t].length) return found(2);
            int was = texts[t][i];
            texts[t][i] = (byte) v;
            return was + 1000;
        }

        /** The FAULT, or NONE with the LAND drawn; goes down item by item. */
        int draw(byte[] text, Land drawn) {
            int i = 0;
            while (i < text.length) {
                int sign = text[i];
                if (sign == ' ') {
                    i++;
                } else if (sign > 0 && "hcsluy".indexOf(sign) >= 0) {
                    if (!drawn.meetings.isEmpty() || drawn.size() == 7) return i;
                    i++;
                    int known = 0;
                    while (i < text.length && text[i] >= '0' && text[i] <= '4' && known >> text[i] - '0' == 0) {
                        known |= 1 << text[i] - '0';
                        i++;
                    }
                    drawn.kinds.add((char) sign);
                    drawn.known.add(known);
                } else if (sign == 'm') {
                    if (drawn.meetings.size() == 16) return i;
                    int[] m = new int[3];
                    for (int part = 0; part < 3; part++) {
                        int place = i + 1 + part;
                        if (place >= text.length) return text.length;
                        m[part] = text[place] - '0';
                        if (m[part] < 0 || m[part] > 9) return place;
                        if (part < 2 ? m[part] >= drawn.size() : m[part] > 7) return place;
                        if (part == 1 && m[0] == m[1]) return place;
                    }
                    drawn.meetings.add(m);
                    i += 4;
                } else {
                    return i;
                }
            }
            return NONE;
        }

        int fault(int t) {
            if (t < 0 || t > 3) return BAD;
            if (texts[t] == null) return found(1);
            return draw(texts[t], new Land());
        }

        int land(int t) {
            if (t < 0 || t > 3) return BAD;
            if (texts[t] == null) return found(1);
            Land drawn = new Land();
            if (draw(texts[t], drawn) != NONE) return STATE;
            land = drawn;
            kept = new Land[3];
            return land.size();
        }

        int fact(int x, int what) {
            int n = 0;
            switch (what) {
                case 0: return "hcsluy".indexOf(land.kinds.get(x));
                case 1: return land.known.get(x);
                case 2:
                    for (int[] m : land.meetings) n += m[0] == x || m[1] == x ? 1 : 0;
                    return n;
                default:
                    for (Post p : land.posts) n += !p.isThere() && p.hands.get(p.hands.size() - 1) == x ? 1 : 0;
                    return n;
            }
        }

        int hand(int x, int what) {
            if (!land.is(x) || what < 0 || what > 3) return BAD;
            return tell(fact(x, what));
        }

        int mark(int x, int kind) {
            if (!land.is(x) || kind < 1 || kind > 5) return BAD;
            char is = land.kinds.get(x);
            int n = 0;
            switch (kind) {
                case 1:
                    if (is != 'c' && is != 'u') return found(3);
                    return Integer.bitCount(land.known.get(x));
                case 2:
                    if (is != 's') return found(3);
                    for (int t = 0; t < 5; t++) n |= land.may(x, 1 << t) ? 0 : 1 << t;
                    return n;
                case 3:
                    if (is != 'l' && is != 'y') return found(3);
                    for (Post p : land.posts) {
                        int place = p.hands.indexOf(x);
                        n += place > 0 && place < p.hands.size() - 1 ? 1 : 0;
                    }
                    return n;
                case 4:
                    if (is != 'u') return found(3);
                    for (int y = 0; y < land.size(); y++) n += land.meet(x, y, -1) ? 1 : 0;
                    return n;
                default:
                    if (is != 'y') return found(3);
                    return 5 - Integer.bitCount(land.known.get(x));
            }
        }

        int teach(int x, int t, int is) {
            if (!land.is(x) || t < 0 || t > 4 || is < 0 || is > 1) return BAD;
            int was = land.knows(x, t) ? 1 : 0;
            if (was != is) land.known.set(x, land.known.get(x) ^ 1 << t);
            return was;
        }

        int meet(int x, int y, int hour) {
            if (!land.is(x) || !land.is(y) || x == y || hour < 0 || hour > 7) return BAD;
            if (land.meetings.size() == 16) return FULL;
            land.meetings.add(new int[] {x, y, hour});
            return land.meetings.size() - 1;
        }

        int off(int n) {
            if (n < 0 || n > land.meetings.size()) return BAD;
            int gone = 0;
            while (land.meetings.size() > n) {
                land.meetings.remove(land.meetings.size() - 1);
                gone++;
            }
            return gone;
        }

        int may(int x, int tongues) {
            if (!land.is(x) || tongues < 1 || tongues > 31) return BAD;
            return land.may(x, tongues) ? 1 : 0;
        }

        int meets(int x, int hour) {
            if (!land.is(x) || hour < 0 || hour > 99) return BAD;
            int set = 0;
            for (int y = 0; y < land.size(); y++) set |= land.meet(x, y, hour) ? 1 << y : 0;
            return set;
        }

        int send(int x, int y, int tongues) {
            if (noWay(x, y, tongues)) return BAD;
            for (int t = 0; t < 5; t++) {
                if ((tongues & 1 << t) != 0 && !(land.knows(x, t) && land.knows(y, t))) return STATE;
            }
            if (land.posts.size() == 4) return FULL;
            Post post = new Post();
            post.to = y;
            post.tongues = tongues;
            post.hands.add(x);
            post.hours.add(land.hour);
            land.posts.add(post);
            return land.posts.size() - 1;
        }

        int give(int k, int x) {
            if (k < 0 || !land.is(x)) return BAD;
            if (k >= land.posts.size()) return found(2);
            if (!land.canTake(land.posts.get(k), x)) return STATE;
            return land.give(land.posts.get(k), x) ? 1 : 0;
        }

        int hours(int n) {
            if (n < 0 || n > 20) return BAD;
            if (land.hour + n > 99) return FULL;
            land.hour += n;
            return land.hour;
        }

        int where(int k) {
            if (k < 0) return BAD;
            if (k >= land.posts.size()) return found(2);
            Post post = land.posts.get(k);
            asked = post.hours.get(post.hours.size() - 1);
            return post.hands.get(post.hands.size() - 1);
        }

        int hands(int k, int r) {
            if (k < 0 || r < 0 || r > 5) return BAD;
            if (k >= land.posts.size()) return found(2);
            rows[r] = land.posts.get(k).hands.stream().mapToInt(Integer::intValue).toArray();
            return rows[r].length;
        }

        int back(int k) {
            if (k < 0) return BAD;
            if (k >= land.posts.size()) return found(2);
            Post post = land.posts.get(k);
            if (post.hands.size() == 1) return STATE;
            post.hands.remove(post.hands.size() - 1);
            post.hours.remove(post.hours.size() - 1);
            return post.hands.get(post.hands.size() - 1);
        }

        int keep(int k) {
            if (k < 0 || k > 2) return BAD;
            if (land.size() == 0) return STATE;
            kept[k] = land.twin();
            return land.hour;
        }

        int on(int k) {
            if (k < 0 || k > 2) return BAD;
            if (kept[k] == null) return found(1);
            land = kept[k].twin();
            return land.hour;
        }

        boolean noWay(int x, int y, int tongues) {
            return !land.is(x) || !land.is(y) || x == y || tongues < 1 || tongues > 31;
        }

        int soon(int x, int y, int tongues, int hour) {
            if (noWay(x, y, tongues) || hour < 0 || hour > 99) return BAD;
            return land.soon(x, y, tongues, hour);
        }

        int way(int x, int y, int tongues, int r) {
            if (noWay(x, y, tongues) || r < 0 || r > 5) return BAD;
            List<Integer> best = null;
            for (List<Integer> way : land.ways(x, y, tongues, false)) {
                if (best == null || way.size() < best.size()) best = way;
            }
            if (best == null) return NONE;
            rows[r] = best.stream().mapToInt(Integer::intValue).toArray();
            return best.size() - 2;
        }

        int tongue(int x, int y, int hour) {
            if (noWay(x, y, 1) || hour < 0 || hour > 99) return BAD;
            int best = NONE;
            int least = 1000;
            for (int t = 4; t >= 0; t--) {
                int soon = land.knows(x, t) && land.knows(y, t) ? land.soon(x, y, 1 << t, hour) : NONE;
                if (soon != NONE && soon <= least) {
                    best = t;
                    least = soon;
                }
            }
            if (best != NONE) asked = least;
            return best;
        }

        int parts(int x, int y, int tongues, int hour) {
            if (noWay(x, y, tongues) || hour < 0 || hour > 99) return BAD;
            int most = 0;
            for (int t = 0; t < 5; t++) {
                if ((tongues & 1 << t) != 0) {
                    int soon = land.soon(x, y, 1 << t, hour);
                    if (soon == NONE) return NONE;
                    most = Math.max(most, soon);
                }
            }
            return most;
        }

        static int between(List<Integer> way) {
            int set = 0;
            for (int i = 1; i < way.size() - 1; i++) set |= 1 << way.get(i);
            return set;
        }

        static int most(List<Integer> sets, int from, int used) {
            int most = 0;
            for (int i = from; i < sets.size(); i++) {
                if ((sets.get(i) & used) == 0) most = Math.max(most, 1 + most(sets, i + 1, used | sets.get(i)));
            }
            return most;
        }

        int apart(int x, int y, int tongues) {
            if (noWay(x, y, tongues)) return BAD;
            List<Integer> sets = new ArrayList<>();
            for (List<Integer> way : land.ways(x, y, tongues, false)) {
                if (!sets.contains(between(way))) sets.add(between(way));
            }
            return most(sets, 0, 0);
        }

        int needs(int x, int y, int tongues) {
            if (noWay(x, y, tongues)) return BAD;
            List<List<Integer>> ways = land.ways(x, y, tongues, false);
            int set = ways.isEmpty() ? 0 : 127;
            for (List<Integer> way : ways) set &= between(way);
            return set;
        }

        int forget(int x, int y, int tongues) {
            if (noWay(x, y, tongues)) return BAD;
            int least = 1000;
            int size = 0;
            int who = 0;
            for (List<Integer> way : land.ways(x, y, tongues, true)) {
                int price = 0;
                int set = 0;
                for (int i = 1; i < way.size() - 1; i++) {
                    int one = land.kinds.get(way.get(i)) == 'h' || land.kinds.get(way.get(i)) == 'l'
                        || land.kinds.get(way.get(i)) == 's' ? land.price(way.get(i), tongues) : 0;
                    price += one;
                    set |= one > 0 ? 1 << way.get(i) : 0;
                }
                if (price < least || price == least && way.size() < size) {
                    least = price;
                    size = way.size();
                    who = set;
                }
            }
            if (least == 1000) return NONE;
            asked = who;
            return least;
        }

        int reach(int x, int t) {
            if (!land.is(x) || t < 0 || t > 4) return BAD;
            return land.reach(x, t);
        }

        int cutOff() {
            asked = land.pairs().size();
            return land.cut();
        }

        int taught(int x, int t) {
            if (!land.is(x) || t < 0 || t > 4) return BAD;
            return tell(land.cutIf(x, t) - land.cut());
        }

        int best() {
            int best = NONE;
            int least = 1000;
            for (int x = 0; x < land.size(); x++) {
                for (int t = 0; t < 5; t++) {
                    if (!land.knows(x, t) && land.cutIf(x, t) < least) {
                        best = 10 * x + t;
                        least = land.cutIf(x, t);
                    }
                }
            }
            if (best != NONE) asked = least;
            return best;
        }

        int worth(int x) {
            if (!land.is(x)) return BAD;
            int n = 0;
            for (int a = 0; a < land.size(); a++) {
                for (int b = 0; b < land.size(); b++) {
                    for (int t = 0; t < 5; t++) {
                        if (a != b && land.knows(a, t) && land.knows(b, t)) {
                            n += needs(a, b, 1 << t) >> x & 1;
                        }
                    }
                }
            }
            return n;
        }

        int fewest() {
            int best = 31;
            for (int set = 31; set >= 0; set--) {
                boolean enough = true;
                for (int pair : land.pairs()) enough &= pair == 0 || (pair & set) != 0;
                if (enough && Integer.bitCount(set) <= Integer.bitCount(best)) best = set;
            }
            asked = best;
            return Integer.bitCount(best);
        }

        int refused(int r) {
            if (r < 0 || r > 5) return BAD;
            if (rows[r] == null) return found(1);
            if (rows[r].length % 2 == 1) return found(5);
            for (int i = 0; i < rows[r].length; i += 2) {
                if (rows[r][i] < 0 || rows[r][i] >= 1 << land.size() || (rows[r][i + 1] & ~1) != 0) return found(3);
            }
            return 0;
        }

        boolean reads(int r, int x, int y) {
            for (int i = 0; i < rows[r].length; i += 2) {
                int read = (rows[r][i] >> x | rows[r][i] >> y) & 1;
                if (read != rows[r][i + 1]) return false;
            }
            return true;
        }

        int reader(int r) {
            int refused = refused(r);
            if (refused != 0) return refused;
            int set = 0;
            for (int x = 0; x < land.size(); x++) set |= reads(r, x, x) ? 1 << x : 0;
            return set;
        }

        int readers(int r) {
            int refused = refused(r);
            if (refused != 0) return refused;
            int n = 0;
            for (int x = 0; x < land.size(); x++) {
                for (int y = 0; y < x; y++) n += reads(r, x, y) ? 1 : 0;
            }
            return n;
        }

        int knows(int r) {
            if (r < 0 || r > 5) return BAD;
            if (rows[r] == null) return found(1);
            for (int v : rows[r]) if (v < 1 || v > 31) return found(3);
            int n = 0;
            int greatest = 0;
            for (int set = 0; set < 32; set++) {
                boolean can = true;
                for (int v : rows[r]) can &= (v & set) == 0;
                n += can ? 1 : 0;
                greatest = can ? set : greatest;
            }
            asked = greatest;
            return n;
        }

        int days(int n, int seed) {
            if (n < 1 || n > 60 || seed < 1 || seed > 2147483646) return BAD;
            if (land.size() == 0) return STATE;
            if (land.hour + n > 99) return FULL;
            long number = seed;
            int came = 0;
            for (int i = 0; i < n; i++) {
                for (Post post : land.posts) {
                    List<Integer> can = new ArrayList<>();
                    for (int x = 0; x < land.size(); x++) if (land.canTake(post, x)) can.add(x);
                    if (!can.isEmpty()) {
                        number = 48271L * number % 2147483647L;
                        came += land.give(post, can.get((int) (number % can.size()))) ? 1 : 0;
                    }
                }
                land.hour++;
            }
            return came;
        }

        long part(boolean upper) {
            int all = land.pairs().size();
            int there = all - land.cut();
            for (int d = all; d > 1; d--) {
                if (all % d == 0 && there % d == 0) {
                    return (upper ? there : all) / d;
                }
            }
            return upper ? there : Math.max(1, all);
        }

        int count(int what) {
            int n = 0;
            switch (what) {
                case 0: return land.size();
                case 1: return land.meetings.size();
                case 2: return land.hour;
                case 3: return land.posts.size();
                case 4:
                    for (Post p : land.posts) n += p.isThere() ? 1 : 0;
                    return n;
                case 5:
                    for (char kind : land.kinds) n += kind == 'c' || kind == 'u' ? 1 : 0;
                    return n;
                case 6:
                    for (int[] row : rows) n += row != null ? 1 : 0;
                    return n;
                case 7:
                    for (byte[] text : texts) n += text != null ? 1 : 0;
                    return n;
                case 8:
                    for (Land one : kept) n += one != null ? 1 : 0;
                    return n;
                default: return BAD;
            }
        }

        int findings(int f) {
            return f < 1 || f > 5 ? BAD : findings[f];
        }

        long digest() {
            List<Integer> all = new ArrayList<>();
            for (int what = 0; what < 9; what++) all.add(count(what));
            for (int x = 0; x < land.size(); x++) {
                for (int what = 0; what < 4; what++) all.add(fact(x, what));
            }
            for (int[] m : land.meetings) for (int v : m) all.add(v);
            for (Post p : land.posts) {
                all.add(p.to);
                all.add(p.tongues);
                all.addAll(p.hands);
            }
            for (Land one : kept) all.add(one == null ? -1 : one.hour);
            for (int[] row : rows) {
                all.add(row == null ? -1 : row.length);
                if (row != null) for (int v : row) all.add(v);
            }
            for (byte[] text : texts) {
                all.add(text == null ? -1 : text.length);
                if (text != null) for (int v : text) all.add(v);
            }
            long h = 17;
            for (int v : all) h = 31 * h + v;
            return h;
        }
    }

    private final Random random;
    private final Model model = new Model();
    private final BlindPost post = new BlindPost();
    private final StringBuilder log = new StringBuilder();
    private int calls = 0;

    private ModelTest(long seed) {
        random = new Random(seed);
    }

    /** A number mostly from 0 to below n, now and then just outside, or far. */
    private int near(int n) {
        int dice = random.nextInt(60);
        if (dice == 0) return -1;
        if (dice == 1) return n;
        if (dice == 2) return random.nextInt();
        return n <= 0 ? 0 : random.nextInt(n);
    }

    private int someHand() {
        return near(model.land.size());
    }

    private int someTongues() {
        return random.nextInt(3) == 0 ? near(32) : 1 << random.nextInt(5);
    }

    private boolean same(String call, long got, long want) {
        calls++;
        log.append(call).append(" = ").append(got).append('\n');
        if (got != want) {
            log.append("  due is ").append(want).append('\n');
            return false;
        }
        return true;
    }

    private String someLand() {
        StringBuilder text = new StringBuilder();
        int hands = random.nextInt(12) == 0 ? random.nextInt(9) : 3 + random.nextInt(5);
        boolean wide = random.nextInt(4) == 0;
        int richness = random.nextInt(4);
        for (int x = 0; x < hands; x++) {
            text.append("hhcssluly".charAt(random.nextInt(9)));
            for (int t = 0; t < 5; t++) {
                if (random.nextInt(5) < richness) text.append((char) ('0' + t));
            }
            if (wide) text.append(' ');
        }
        int most = random.nextInt(17);
        for (int m = 0; m < most && hands > 1 && text.length() < 76; m++) {
            int x = random.nextInt(hands);
            int y = (x + 1 + random.nextInt(hands - 1)) % hands;
            text.append('m').append(x).append(y).append(random.nextInt(8));
            if (wide && text.length() < 76) text.append(' ');
        }
        if (random.nextInt(5) == 0 && text.length() > 0) {
            text.setCharAt(random.nextInt(text.length()), "hcsluym0123456789 qH".charAt(random.nextInt(20)));
        }
        if (text.length() > 80) text.setLength(80);
        return text.toString();
    }

    private boolean writeLand() {
        int t = random.nextInt(4);
        String text = someLand();
        boolean fine = same("text(" + t + ", " + text.length() + ")", post.text(t, text.length()), model.text(t, text.length()));
        for (int i = 0; i < text.length(); i++) {
            int v = text.charAt(i);
            fine &= post.put(t, i, v) == model.put(t, i, v);
            calls++;
        }
        log.append("  written: ").append(text).append('\n');
        fine &= same("fault(" + t + ")", post.fault(t), model.fault(t));
        return fine & same("land(" + t + ")", post.land(t), model.land(t));
    }

    /** A ROW such as reader(), readers(), knows() want, mostly. */
    private boolean writeRow() {
        int r = random.nextInt(6);
        int n = random.nextInt(9);
        boolean pairs = random.nextBoolean();
        boolean fine = same("row(" + r + ", " + n + ")", post.row(r, n), model.row(r, n));
        for (int i = 0; i < n; i++) {
            int v = pairs && i % 2 == 1 ? near(2) : near(pairs ? 1 << model.land.size() : 32);
            fine &= same("lay(" + r + ", " + i + ", " + v + ")", post.lay(r, i, v), model.lay(r, i, v));
        }
        fine &= same("reader(" + r + ")", post.reader(r), model.reader(r));
        fine &= same("readers(" + r + ")", post.readers(r), model.readers(r));
        return fine & same("knows(" + r + ")", post.knows(r), model.knows(r));
    }

    private boolean callOne() {
        int a = someHand();
        int b = someHand();
        int r = near(6);
        int t = near(5);
        int s = someTongues();
        int h = near(100);
        int k = near(random.nextBoolean() ? 4 : model.land.posts.size());
        int i = near(12);
        int v = near(200);
        String hands = a + ", " + b;
        switch (random.nextInt(62)) {
            case 0: return same("row(" + r + ", " + i + ")", post.row(r, i), model.row(r, i));
            case 1: return same("lay(" + r + ", " + i + ", " + v + ")", post.lay(r, i, v), model.lay(r, i, v));
            case 2: return same("at(" + r + ", " + i + ")", post.at(r, i), model.at(r, i));
            case 3: return same("tear(" + r + ")", post.tear(r), model.tear(r));
            case 4: {
                int to = near(6);
                int j = near(5);
                int n = near(5);
                String call = "copy(" + r + ", " + i + ", " + to + ", " + j + ", " + n + ")";
                return same(call, post.copy(r, i, to, j, n), model.copy(r, i, to, j, n));
            }
            case 5: return same("mean(" + r + ")", post.mean(r), model.mean(r));
            case 6: return same("text(" + k + ", " + v + ")", post.text(k, v), model.text(k, v));
            case 7: return same("put(" + k + ", " + h + ", " + v + ")", post.put(k, h, v), model.put(k, h, v));
            case 8: return same("fault(" + k + ")", post.fault(k), model.fault(k));
            case 9: return random.nextInt(8) != 0 || calls > MOST_CALLS - LAND_CALLS || writeLand();
            case 10:
            case 11: return same("hand(" + a + ", " + k + ")", post.hand(a, k), model.hand(a, k));
            case 12:
            case 13: {
                int kind = near(6);
                return same("mark(" + a + ", " + kind + ")", post.mark(a, kind), model.mark(a, kind));
            }
            case 14:
            case 15: {
                int is = near(2);
                return same("teach(" + a + ", " + t + ", " + is + ")", post.teach(a, t, is), model.teach(a, t, is));
            }
            case 16:
            case 17: {
                int hour = near(8);
                return same("meet(" + hands + ", " + hour + ")", post.meet(a, b, hour), model.meet(a, b, hour));
            }
            case 18: {
                int n = Math.max(near(17), model.land.meetings.size() - 2);
                return same("off(" + n + ")", post.off(n), model.off(n));
            }
            case 19: return same("may(" + a + ", " + s + ")", post.may(a, s), model.may(a, s));
            case 20: return same("meets(" + a + ", " + h + ")", post.meets(a, h), model.meets(a, h));
            case 21:
            case 22: {
                if (model.land.is(a) && model.land.is(b)) s = model.land.known.get(a) & model.land.known.get(b);
                if (random.nextInt(3) == 0) s &= someTongues();
                return same("send(" + hands + ", " + s + ")", post.send(a, b, s), model.send(a, b, s));
            }
            case 23:
            case 24:
            case 25:
            case 26:
            case 27:
            case 28: {
                if (model.land.size() > 0 && k >= 0 && k < model.land.posts.size()) {
                    for (int x = 0; x < model.land.size(); x++) {
                        if (model.land.canTake(model.land.posts.get(k), x) && random.nextInt(3) > 0) a = x;
                    }
                }
                return same("give(" + k + ", " + a + ")", post.give(k, a), model.give(k, a));
            }
            case 29:
            case 30:
            case 31: {
                int n = random.nextInt(10) == 0 ? near(21) : random.nextInt(2);
                return same("hours(" + n + ")", post.hours(n), model.hours(n));
            }
            case 32: return same("where(" + k + ")", post.where(k), model.where(k));
            case 33: return same("hands(" + k + ", " + r + ")", post.hands(k, r), model.hands(k, r));
            case 34: return same("back(" + k + ")", post.back(k), model.back(k));
            case 35: return same("keep(" + k + ")", post.keep(k), model.keep(k));
            case 36:
            case 37: return same("on(" + k + ")", post.on(k), model.on(k));
            case 38:
            case 39: return same("soon(" + hands + ", " + s + ", " + h + ")", post.soon(a, b, s, h), model.soon(a, b, s, h));
            case 40:
            case 41: return same("way(" + hands + ", " + s + ", " + r + ")", post.way(a, b, s, r), model.way(a, b, s, r));
            case 42: return same("tongue(" + hands + ", " + h + ")", post.tongue(a, b, h), model.tongue(a, b, h));
            case 43: return same("parts(" + hands + ", " + s + ", " + h + ")", post.parts(a, b, s, h), model.parts(a, b, s, h));
            case 44:
            case 45: return same("apart(" + hands + ", " + s + ")", post.apart(a, b, s), model.apart(a, b, s));
            case 46: return same("needs(" + hands + ", " + s + ")", post.needs(a, b, s), model.needs(a, b, s));
            case 47:
            case 48: return same("forget(" + hands + ", " + s + ")", post.forget(a, b, s), model.forget(a, b, s));
            case 49: return same("reach(" + a + ", " + t + ")", post.reach(a, t), model.reach(a, t));
            case 50: return same("cutOff()", post.cutOff(), model.cutOff());
            case 51: return same("taught(" + a + ", " + t + ")", post.taught(a, t), model.taught(a, t));
            case 52: return random.nextInt(8) != 0 || same("best()", post.best(), model.best());
            case 53: return same("worth(" + a + ")", post.worth(a), model.worth(a));
            case 54: return random.nextInt(4) != 0 || same("fewest()", post.fewest(), model.fewest());
            case 55: return random.nextInt(3) != 0 || writeRow();
            case 56: {
                int n = random.nextInt(3) == 0 ? near(61) : 1 + random.nextInt(4);
                int seed = random.nextInt(9) == 0 ? near(3) : random.nextInt();
                return same("days(" + n + ", " + seed + ")", post.days(n, seed), model.days(n, seed));
            }
            case 57: return same("upper()", post.upper(), model.part(true));
            case 58: return same("lower()", post.lower(), model.part(false));
            case 59: return same("count(" + i + ")", post.count(i), model.count(i));
            case 60: return same("findings(" + r + ")", post.findings(r), model.findings(r));
            default: return random.nextInt(6) != 0 || same("land(" + k + ")", post.land(k), model.land(k));
        }
    }

    private boolean run() {
        boolean fine = writeLand();
        for (int turn = 0; fine && calls < MOST_CALLS - TURN_CALLS; turn++) {
            fine = callOne();
            fine &= turn % 4 != 0 || same("asked()", post.asked(), model.asked);
            fine &= turn % 4 != 1 || same("finding()", post.finding(), model.finding);
            fine &= turn % 8 != 2 || same("digest()", post.digest(), model.digest());
        }
        fine = fine && same("digest()", post.digest(), model.digest());
        return fine && same("calls beyond those promised", Math.max(0, calls - MOST_CALLS), 0);
    }

    public static void main(String[] args) {
        for (int seed = 0; seed < RUNS; seed++) {
            ModelTest test = new ModelTest(seed);
            if (!test.run()) {
                System.out.println("run by seed " + seed + ":");
                System.out.println(test.log);
                System.exit(1);
            }
        }
        System.out.println(RUNS + " runs answer as the model does");
    }
}
