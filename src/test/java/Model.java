import java.util.ArrayDeque;
import java.util.ArrayList;
import java.util.List;
import java.util.regex.Matcher;
import java.util.regex.Pattern;

/**
 * The document written a second time, by other means than the class: regular expressions, lists of
 * all ways, flows, sets of planks counted through. It may be slow and may make what it likes.
 */
final class Model {
    private static final Pattern TOKEN = Pattern.compile(" *([a-z]+|[0-9]+|;)");

    private StringBuilder text = new StringBuilder();
    private int n = 4;
    private List<int[]> planks = new ArrayList<>();
    private List<int[]> people = new ArrayList<>();
    private List<int[]> errands = new ArrayList<>();
    private int[] bears = {};
    private List<int[]> went = new ArrayList<>();
    private final int[][] imageBears = new int[2][];
    private final List<List<int[]>> imageWent = new ArrayList<>(List.of(List.of(), List.of()));
    private long trace = 0;

    int type(long v, int count) {
        if (count < 1 || count > 8) {
            return -1;
        }
        if (text.length() + count > 300) {
            return -3;
        }
        for (int i = count; i > 0; i--) {
            text.append((char) (v >>> 8 * (i - 1) & 255));
        }
        return text.length();
    }

    int clear() {
        int had = text.length();
        text = new StringBuilder();
        return had;
    }

    // ---- reading: all tokens first, then the items by what may stand in each of their places

    private record Token(int place, String word) { }

    private List<Token> tokens() {
        List<Token> all = new ArrayList<>();
        Matcher m = TOKEN.matcher(text);
        int at = 0;
        while (m.region(at, text.length()).lookingAt()) {
            all.add(new Token(m.start(1), m.group(1)));
            at = m.end();
        }
        while (at < text.length() && text.charAt(at) == ' ') {
            at++;
        }
        all.add(new Token(at, at < text.length() ? "?" : "end"));
        return all;
    }

    int marsh() {
        List<Token> all = tokens();
        int places = 4;
        List<int[]> newPlanks = new ArrayList<>();
        List<int[]> newPeople = new ArrayList<>();
        List<int[]> newErrands = new ArrayList<>();
        int at = 0;
        int items = 0;
        while (at < all.size() - 1 || !all.get(at).word.equals("end")) {
            String word = all.get(at).word;
            int[][] mays;
            if (word.equals("marsh") && items == 0) {
                mays = new int[][] {{2, 6}};
            } else if (word.equals("plank") && newPlanks.size() < 9) {
                mays = new int[][] {{0, places - 1}, {0, places - 1}, {0, 9}};
            } else if (word.equals("person") && newPeople.size() < 4) {
                mays = new int[][] {{1, 3}, {1, 2}};
            } else if (word.equals("errand") && newErrands.size() < 3) {
                mays = new int[][] {{0, newPeople.size() - 1}, {0, places - 1}, {0, places - 1}};
            } else {
                return -10 - all.get(at).place;
            }
            at++;
            int[] got = new int[mays.length];
            for (int i = 0; i < mays.length; i++, at++) {
                int value = number(all.get(at).word);
                boolean isLikeA = word.equals("plank") && i == 1 && value == got[0]
                    || word.equals("errand") && i == 2 && value == got[1];
                if (value < mays[i][0] || value > mays[i][1] || isLikeA) {
                    return -10 - all.get(at).place;
                }
                got[i] = value;
            }
            if (!all.get(at).word.equals(";")) {
                return -10 - all.get(at).place;
            }
            at++;
            items++;
            switch (word) {
                case "marsh" -> places = got[0];
                case "plank" -> newPlanks.add(got);
                case "person" -> newPeople.add(got);
                default -> newErrands.add(got);
            }
        }
        n = places;
        planks = newPlanks;
        people = newPeople;
        errands = newErrands;
        bears = planks.stream().mapToInt(plank -> plank[2]).toArray();
        went = new ArrayList<>();
        imageBears[0] = null;
        imageBears[1] = null;
        text = new StringBuilder();
        return items;
    }

    private static int number(String word) {
        return word.matches("0|[1-9][0-9]?") ? Integer.parseInt(word) : -1;
    }

    // ---- what is told

    int plank(int k, int what) {
        if (k < 0 || k >= planks.size() || what < 0 || what > 2) {
            return -1;
        }
        return what == 2 ? bears[k] : planks.get(k)[what];
    }

    int person(int p, int what) {
        return p < 0 || p >= people.size() || what < 0 || what > 1 ? -1 : people.get(p)[what];
    }

    int errand(int e, int what) {
        return e < 0 || e >= errands.size() || what < 0 || what > 2 ? -1 : errands.get(e)[what];
    }

    // ---- ways: all of them, shortest first, of these by their numbers

    private List<List<Integer>> allWays(int a, int b) {
        List<List<Integer>> ways = new ArrayList<>();
        ArrayDeque<List<Integer>> open = new ArrayDeque<>();
        open.add(List.of());
        while (!open.isEmpty()) {
            List<Integer> way = open.remove();
            List<Integer> places = placesOf(way, a);
            int here = places.get(places.size() - 1);
            if (here == b) {
                ways.add(way);
                continue;
            }
            for (int k = 0; k < planks.size(); k++) {
                int[] ends = planks.get(k);
                boolean leads = ends[0] == here && !places.contains(ends[1])
                    || ends[1] == here && !places.contains(ends[0]);
                if (leads) {
                    List<Integer> longer = new ArrayList<>(way);
                    longer.add(k);
                    open.add(longer);
                }
            }
        }
        return ways;
    }

    private List<Integer> placesOf(List<Integer> way, int a) {
        List<Integer> places = new ArrayList<>(List.of(a));
        int here = a;
        for (int k : way) {
            here = planks.get(k)[0] + planks.get(k)[1] - here;
            places.add(here);
        }
        return places;
    }

    private int takes(int p, int i) {
        return people.get(p)[1] == 2 && i % 2 == 1 ? 0 : people.get(p)[0];
    }

    private boolean isBorne(List<Integer> way, int p, int[] by) {
        for (int i = 0; i < way.size(); i++) {
            if (by[way.get(i)] < Math.max(1, takes(p, i))) {
                return false;
            }
        }
        return true;
    }

    private List<Integer> firstWay(int p, int a, int b) {
        for (List<Integer> way : allWays(a, b)) {
            if (isBorne(way, p, bears)) {
                return way;
            }
        }
        return null;
    }

    private boolean areTwo(int a, int b) {
        return a >= 0 && a < n && b >= 0 && b < n && a != b;
    }

    int way(int p, int a, int b, int i) {
        if (p < 0 || p >= people.size() || !areTwo(a, b) || i < -1) {
            return -1;
        }
        List<Integer> way = firstWay(p, a, b);
        if (way == null) {
            return -9;
        }
        return i == -1 ? way.size() : i < way.size() ? way.get(i) : -5;
    }

    private int take(int k, int w, int p) {
        bears[k] -= w;
        if (bears[k] == 0 && went.size() < 20) {
            went.add(new int[] {k, p});
        }
        return bears[k] == 0 ? 1 : 0;
    }

    int go(int p, int a, int b) {
        if (p < 0 || p >= people.size() || !areTwo(a, b)) {
            return -1;
        }
        List<Integer> way = firstWay(p, a, b);
        if (way == null) {
            return -2;
        }
        int under = 0;
        for (int i = 0; i < way.size(); i++) {
            under += take(way.get(i), takes(p, i), p);
        }
        return under;
    }

    int steps(int p, int k) {
        if (p < 0 || p >= people.size() || k < 0 || k >= planks.size()) {
            return -1;
        }
        if (bears[k] < people.get(p)[0]) {
            return -2;
        }
        take(k, people.get(p)[0], p);
        return bears[k];
    }

    int days(int count) {
        if (count < 1 || count > 9) {
            return -1;
        }
        int without = 0;
        for (int day = 0; day < count; day++) {
            for (int[] e : errands) {
                without += go(e[0], e[1], e[2]) == -2 ? 1 : 0;
            }
        }
        return without;
    }

    int went(int i, int what) {
        if (i < 0 || what < 0 || what > 1) {
            return -1;
        }
        return i < went.size() ? went.get(i)[what] : -5;
    }

    int frost() {
        int more = 0;
        for (int k = 0; k < bears.length; k++) {
            if (bears[k] != 0 && bears[k] != 9) {
                bears[k]++;
                more++;
            }
        }
        return more;
    }

    int cart(int k) {
        if (k < 0 || k >= planks.size()) {
            return -1;
        }
        int bore = bears[k];
        bears[k] = 9;
        return bore;
    }

    int exchange(int k, int l) {
        if (k < 0 || k >= planks.size() || l < 0 || l >= planks.size() || k == l) {
            return -1;
        }
        bears = exchanged(k, l);
        return 1;
    }

    private int[] exchanged(int k, int l) {
        int[] other = bears.clone();
        other[k] = bears[l];
        other[l] = bears[k];
        return other;
    }

    // ---- what can be

    int all(int what) {
        if (what < 0 || what > 1) {
            return -1;
        }
        int rest = rest(0, bears);
        return what == 1 ? rest : rest == -9 ? 0 : 1;
    }

    private int rest(int e, int[] by) {
        if (e == errands.size()) {
            return sum(by);
        }
        int most = -9;
        int p = errands.get(e)[0];
        for (List<Integer> way : allWays(errands.get(e)[1], errands.get(e)[2])) {
            if (isBorne(way, p, by)) {
                int[] then = by.clone();
                for (int i = 0; i < way.size(); i++) {
                    then[way.get(i)] -= takes(p, i);
                }
                most = Math.max(most, rest(e + 1, then));
            }
        }
        return most;
    }

    private static int sum(int[] by) {
        int sum = 0;
        for (int b : by) {
            sum += b;
        }
        return sum;
    }

    /** By sending one at a time over what is left, also back over what was sent. */
    private int flow(int w, int a, int b, int[] by) {
        int[][] left = new int[n][n];
        for (int k = 0; k < planks.size(); k++) {
            left[planks.get(k)[0]][planks.get(k)[1]] += by[k] / w;
            left[planks.get(k)[1]][planks.get(k)[0]] += by[k] / w;
        }
        int sent = 0;
        while (sendOne(left, a, b, new boolean[n])) {
            sent++;
        }
        return sent;
    }

    private boolean sendOne(int[][] left, int here, int b, boolean[] seen) {
        if (here == b) {
            return true;
        }
        seen[here] = true;
        for (int next = 0; next < n; next++) {
            if (!seen[next] && left[here][next] > 0 && sendOne(left, next, b, seen)) {
                left[here][next]--;
                left[next][here]++;
                return true;
            }
        }
        return false;
    }

    private boolean isApart(int a, int b, int without) {
        int reached = 1 << a;
        for (int round = 0; round < n; round++) {
            for (int k = 0; k < planks.size(); k++) {
                int ends = 1 << planks.get(k)[0] | 1 << planks.get(k)[1];
                if ((without >> k & 1) == 0 && (reached & ends) != 0) {
                    reached |= ends;
                }
            }
        }
        return (reached >> b & 1) == 0;
    }

    int often(int w, int a, int b, int what) {
        if (w < 1 || w > 3 || !areTwo(a, b) || what < 0 || what > 1) {
            return -1;
        }
        int often = flow(w, a, b, bears);
        if (what == 0) {
            return often;
        }
        for (int set = 0; set < 1 << planks.size(); set++) {
            int together = 0;
            for (int k = 0; k < planks.size(); k++) {
                together += (set >> k & 1) * (bears[k] / w);
            }
            if (together == often && isApart(a, b, set)) {
                return set;
            }
        }
        throw new IllegalStateException("no cut shows " + often);
    }

    int better(int w, int a, int b, int what) {
        if (w < 1 || w > 3 || !areTwo(a, b) || what < 0 || what > 1) {
            return -1;
        }
        int pair = -9;
        int most = -9;
        for (int i = 0; i < planks.size(); i++) {
            for (int j = i + 1; j < planks.size(); j++) {
                int then = flow(w, a, b, exchanged(i, j));
                if (then > most) {
                    most = then;
                    pair = 10 * i + j;
                }
            }
        }
        return what == 0 ? pair : most;
    }

    int spent(int image, int k) {
        if (image < 0 || image > 1 || k < -1 || k >= planks.size()) {
            return -1;
        }
        if (imageBears[image] == null) {
            return -2;
        }
        int sum = 0;
        for (int l = 0; l < planks.size(); l++) {
            if (k == -1 || k == l) {
                sum += Math.max(0, imageBears[image][l] - bears[l]);
            }
        }
        return sum;
    }

    long tell(int image) {
        if (image < 0 || image > 1) {
            return -1;
        }
        if (imageBears[image] == null) {
            return -2;
        }
        long ways = 1;
        for (int k = 0; k < planks.size(); k++) {
            ways *= crossings(0, spent(image, k));
        }
        return ways;
    }

    private long crossings(int p, int sum) {
        if (p == people.size()) {
            return sum == 0 ? 1 : 0;
        }
        long ways = 0;
        for (int times = 0; times * people.get(p)[0] <= sum; times++) {
            ways += crossings(p + 1, sum - times * people.get(p)[0]);
        }
        return ways;
    }

    // ---- kinds, images

    private interface Rating {
        int of(int p);
    }

    int rate(int kind, int p) {
        if (p < 0 || p >= people.size() || kind < 0 || kind > 5) {
            return -1000000;
        }
        Rating person = q -> asked(1, people.get(q)[0]);
        Rating farmer = q -> asked(10, person.of(q) + bearing(people.get(q)[0]));
        Rating leaper = q -> asked(100, person.of(q) - people.get(q)[1]);
        Rating carter = q -> asked(1000, 2 * farmer.of(q));
        Rating thief = q -> asked(10000, leaper.of(q) + q);
        Rating bride = q -> asked(100000, person.of(q) + went.size());
        return List.of(person, farmer, leaper, carter, thief, bride).get(kind).of(p);
    }

    private int asked(int added, int rate) {
        trace += added;
        return rate;
    }

    private int bearing(int w) {
        int count = 0;
        for (int b : bears) {
            count += b >= w ? 1 : 0;
        }
        return count;
    }

    int keep(int image) {
        if (image < 0 || image > 1) {
            return -1;
        }
        imageBears[image] = bears.clone();
        imageWent.set(image, new ArrayList<>(went));
        return bearing(1);
    }

    int back(int image) {
        if (image < 0 || image > 1) {
            return -1;
        }
        if (imageBears[image] == null) {
            return -2;
        }
        bears = imageBears[image].clone();
        went = new ArrayList<>(imageWent.get(image));
        return bearing(1);
    }

    int count(int what) {
        int[] counts = {n, planks.size(), people.size(), errands.size(), went.size(), sum(bears), text.length()};
        return what < 0 || what >= counts.length ? -1 : counts[what];
    }

    long trace() {
        return trace;
    }
}
