import java.util.ArrayList;
import java.util.Collections;
import java.util.HashSet;
import java.util.List;
import java.util.Set;
import java.util.TreeSet;

/**
 * A second, slow RoadWorks: it follows the document's words day by day, without any of the program's short cuts.
 * ModelTest asks both the same calls.
 */
final class Model {
    private static final int NONE = -1, FULL = -2, STATE = -3;

    record Street(int a, int b, int lanes, int rank, int minutes, int rest) { }

    record Way(int a, int b, int limit) { }

    record Broken(int rule, int day, int place) { }

    static final class Job {
        int number, house, sort, lanes, days, depth, wanted, state, over, moved;
        int begin = -1, last = -1;
        Job joined;
        final TreeSet<Integer> pieces = new TreeSet<>();

        boolean lasts(int day) {
            return begin != -1 && day >= begin && day <= last;
        }

        boolean stands() {
            return state >= 1 && state <= 3;
        }

        void from(int day) {
            begin = day;
            last = Math.min(399, day + days - 1);
        }
    }

    final List<Street> streets = new ArrayList<>();
    final List<Way> pairs = new ArrayList<>();
    final List<Job> jobs = new ArrayList<>();
    final Set<Integer> feasts = new HashSet<>();
    int today;
    Broken latest;

    private static boolean in(int x, int least, int most) {
        return least <= x && x <= most;
    }

    int piece(int ends, int lanes, int rank, int minutes, int rest) {
        if (!in(ends, 0, 1919) || ends % 100 > 19 || ends / 100 == ends % 100) return NONE;
        if (!in(lanes, 1, 4) || !in(rank, 0, 2) || !in(minutes, 1, 30) || !in(rest, 0, 60)) return NONE;
        if (streets.size() == 40) return FULL;
        streets.add(new Street(ends / 100, ends % 100, lanes, rank, minutes, rest));
        return streets.size() - 1;
    }

    int pair(int a, int b, int limit) {
        if (!in(a, 0, 19) || !in(b, 0, 19) || a == b || !in(limit, 1, 200)) return NONE;
        if (pairs.size() == 8) return FULL;
        pairs.add(new Way(a, b, limit));
        return pairs.size() - 1;
    }

    int feast(int day, int is) {
        if (!in(day, 0, 399) || !in(is, 0, 1)) return NONE;
        return (is == 1 ? !feasts.add(day) : feasts.remove(day)) ? 1 : 0;
    }

    int work(int a, int b, int piece) {
        if (!in(a, 0, 99999) || !in(b, 0, 9999) || !in(piece, 0, streets.size() - 1)) return NONE;
        Job j = new Job();
        j.house = a / 10000;
        j.sort = a / 1000 % 10;
        j.lanes = a / 100 % 10;
        j.days = a % 100;
        j.depth = b / 1000;
        j.wanted = b % 1000;
        if (j.sort > 3 || !in(j.lanes, 1, 4) || !in(j.days, 1, 30) || j.depth < 1 || j.wanted > 399) return NONE;
        if (jobs.size() == 60) return FULL;
        j.number = jobs.size();
        j.pieces.add(piece);
        jobs.add(j);
        return j.number;
    }

    int more(int w, int piece) {
        if (!isJob(w) || !in(piece, 0, streets.size() - 1) || jobs.get(w).pieces.contains(piece)) return NONE;
        Job j = jobs.get(w);
        if (j.state != 0 || j.joined != null) return STATE;
        if (j.pieces.size() == 4) return FULL;
        j.pieces.add(piece);
        return j.pieces.size();
    }

    int may(int w, int day) {
        int no = refusal(w, day);
        if (no != 0) return no;
        Broken b = check(jobs.get(w), day, 1, others(jobs.get(w)));
        if (b == null) return 0;
        latest = b;
        return b.rule;
    }

    int why(int what) {
        if (latest == null || !in(what, 0, 1)) return NONE;
        return what == 0 ? latest.day : latest.place;
    }

    int first(int w, int from, int n) {
        if (!in(n, 1, 200)) return NONE;
        int no = refusal(w, from);
        if (no != 0) return no;
        for (int d = from; d < from + n; d++) {
            Broken b = check(jobs.get(w), d, 1, others(jobs.get(w)));
            if (b == null) return d;
            if (d == from) latest = b;
        }
        return -5;
    }

    int permit(int w, int day) {
        int rule = may(w, day);
        if (rule < 0) return rule;
        if (rule > 0) return -10 - rule;
        jobs.get(w).from(day);
        jobs.get(w).state = day == today ? 2 : 1;
        return 0;
    }

    int withdraw(int w) {
        if (!isJob(w)) return NONE;
        if (jobs.get(w).state > 1) return STATE;
        away(jobs.get(w));
        return 1;
    }

    int day(int n) {
        if (!in(n, 1, 100) || today + n > 399) return NONE;
        for (int i = 0; i < n; i++) {
            today++;
            for (Job j : jobs) {
                if (j.state == 2 && j.last == today - 1) j.state = 3;
                if (j.state == 1 && j.begin == today) j.state = 2;
            }
        }
        return today;
    }

    int over(int w, int n) {
        if (!isJob(w) || !in(n, 1, 30)) return NONE;
        Job j = jobs.get(w);
        if (j.state != 2) return STATE;
        for (int i = 0; i < n; i++) {
            if (j.last < 399) {
                j.last++;
                j.over++;
            }
        }
        return move();
    }

    int crash(int w) {
        if (!isJob(w)) return NONE;
        Job j = jobs.get(w);
        if (j.sort != 2 || j.state != 0) return STATE;
        j.from(today);
        j.state = 2;
        return move();
    }

    int join(int a, int b) {
        if (!isJob(a) || !isJob(b) || a == b) return NONE;
        Job p = jobs.get(a), q = jobs.get(b);
        boolean fit = p.sort == 1 && q.sort == 1 && p.state <= 1 && q.state <= 1 && p.house != q.house
            && p.depth != q.depth && p.pieces.equals(q.pieces) && p.joined == null && q.joined == null;
        if (!fit) return STATE;
        p.joined = q;
        q.joined = p;
        return 1;
    }

    int about(int w, int what) {
        if (!isJob(w)) return -5;
        Job j = jobs.get(w);
        int ranks = 0;
        for (int p : j.pieces) ranks += streets.get(p).rank;
        return switch (what) {
            case 0 -> j.state;
            case 1 -> j.begin;
            case 2 -> j.last;
            case 3 -> j.over;
            case 4 -> cost(j);
            case 5 -> pays(j);
            case 6 -> j.over * (10 * ranks + 10);
            case 7 -> delay(j);
            case 8 -> j.joined == null ? -1 : j.joined.number;
            case 9 -> j.pieces.size();
            case 10 -> j.moved;
            default -> -5;
        };
    }

    int lanes(int piece, int day) {
        if (!in(piece, 0, streets.size() - 1) || !in(day, 0, 399)) return NONE;
        return taken(piece, day, others(null));
    }

    int way(int pair, int day) {
        if (!in(pair, 0, pairs.size() - 1) || !in(day, 0, 399)) return NONE;
        return minutes(pairs.get(pair), day, others(null));
    }

    int shut(int day) {
        if (!in(day, 0, 399)) return NONE;
        int n = 0;
        for (Way p : pairs) if (!hasWay(p, day, others(null))) n++;
        return n;
    }

    int price() {
        int sum = 0;
        for (Job j : jobs) sum += delay(j) + (j.state == 0 ? 500 : 0);
        return sum;
    }

    int better() {
        int n = 0;
        while (betterStep()) n++;
        return n;
    }

    int book(int piece, int i) {
        if (!in(piece, 0, streets.size() - 1)) return NONE;
        List<Job> book = new ArrayList<>();
        for (Job j : jobs) if ((j.state == 2 || j.state == 3) && j.pieces.contains(piece)) book.add(j);
        book.sort((p, q) -> p.begin != q.begin ? p.begin - q.begin : p.number - q.number);
        return in(i, 0, book.size() - 1) ? book.get(i).number : NONE;
    }

    int count(int what) {
        if (what == 0) return streets.size();
        if (what == 1) return pairs.size();
        if (what == 2) return jobs.size();
        if (what == 3) return today;
        if (!in(what, 4, 8)) return NONE;
        return (int) jobs.stream().filter(j -> j.state == what - 4).count();
    }

    private boolean isJob(int w) {
        return in(w, 0, jobs.size() - 1);
    }

    private int refusal(int w, int day) {
        if (!isJob(w) || !in(day, 0, 399)) return NONE;
        return jobs.get(w).state > 1 || jobs.get(w).sort == 2 ? STATE : 0;
    }

    private void away(Job j) {
        j.state = 4;
        j.begin = -1;
        j.last = -1;
        if (j.joined != null) j.joined.joined = null;
        j.joined = null;
    }

    private int cost(Job j) {
        int sum = 0;
        for (int p : j.pieces) {
            for (int d = 0; d < j.days; d++) sum += 20 + 10 * streets.get(p).rank + 5 * j.lanes;
        }
        return sum;
    }

    private int pays(Job j) {
        if (j.joined == null) return cost(j);
        Job lesser = j.number < j.joined.number ? j : j.joined;
        Job greater = lesser.joined;
        long a = cost(lesser), b = cost(greater);
        long whole = Math.max(a, b) + Math.min(a, b) / 4;
        long ofLesser = a * whole / (a + b), ofGreater = b * whole / (a + b);
        long left = whole - ofLesser - ofGreater;
        return (int) (j == lesser ? ofLesser + left : ofGreater);
    }

    private int delay(Job j) {
        return j.stands() ? Math.max(0, j.begin - j.wanted) * j.lanes : 0;
    }

    private List<Job> others(Job but) {
        List<Job> set = new ArrayList<>();
        for (Job j : jobs) if (j != but && j.stands()) set.add(j);
        return set;
    }

    private static List<Job> with(List<Job> set, Job j) {
        List<Job> all = new ArrayList<>(set);
        all.add(j);
        return all;
    }

    private static int taken(int piece, int day, List<Job> set) {
        int sum = 0;
        Set<Job> done = new HashSet<>();
        for (Job j : set) {
            if (!j.pieces.contains(piece) || !j.lasts(day) || done.contains(j)) continue;
            int lanes = j.lanes;
            if (j.joined != null && set.contains(j.joined) && j.joined.lasts(day)) {
                lanes = Math.max(lanes, j.joined.lanes);
                done.add(j.joined);
            }
            sum += lanes;
        }
        return sum;
    }

    private int minutes(Way pair, int day, List<Job> set) {
        int[][] far = new int[20][20];
        for (int[] row : far) java.util.Arrays.fill(row, 99999);
        for (int i = 0; i < 20; i++) far[i][i] = 0;
        for (int p = 0; p < streets.size(); p++) {
            Street s = streets.get(p);
            if (taken(p, day, set) >= s.lanes) continue;
            far[s.a][s.b] = Math.min(far[s.a][s.b], s.minutes);
            far[s.b][s.a] = Math.min(far[s.b][s.a], s.minutes);
        }
        for (int k = 0; k < 20; k++) {
            for (int i = 0; i < 20; i++) {
                for (int j = 0; j < 20; j++) far[i][j] = Math.min(far[i][j], far[i][k] + far[k][j]);
            }
        }
        return far[pair.a][pair.b] == 99999 ? -5 : far[pair.a][pair.b];
    }

    private boolean hasWay(Way pair, int day, List<Job> set) {
        int m = minutes(pair, day, set);
        return m != -5 && m <= pair.limit;
    }

    /** The first rule from one on that a work breaks from a day on beside a set, or null. */
    private Broken check(Job j, int d, int fromRule, List<Job> set) {
        int begin = j.begin, last = j.last, state = j.state;
        if (fromRule <= 1 && d < today + new int[] {3, 30, 0, 0}[j.sort]) return new Broken(1, d, j.pieces.first());
        if (fromRule <= 2 && d + j.days > 400) return new Broken(2, 400, j.pieces.first());
        j.from(d);
        j.state = 1;
        Broken b = checkDays(j, d, set);
        j.begin = begin;
        j.last = last;
        j.state = state;
        return b;
    }

    private Broken checkDays(Job j, int d, List<Job> set) {
        for (int rule = 3; rule <= 5; rule++) {
            for (int t = d; t <= j.last; t++) {
                for (int p : j.pieces) if (breaks(rule, j, t, p, set)) return new Broken(rule, t, p);
            }
        }
        for (int p : j.pieces) if (restBroken(j, p, set)) return new Broken(6, d, p);
        for (int t = d; t <= j.last; t++) {
            for (int i = 0; i < pairs.size(); i++) {
                if (!hasWay(pairs.get(i), t, with(set, j)) && hasWay(pairs.get(i), t, set)) return new Broken(7, t, i);
            }
        }
        return null;
    }

    private boolean breaks(int rule, Job j, int t, int p, List<Job> set) {
        if (rule == 3) return feasts.contains(t) && streets.get(p).rank == 2;
        if (rule == 4) return taken(p, t, with(set, j)) > streets.get(p).lanes;
        for (Job o : set) {
            if (o.house != j.house && o.depth == j.depth && o.joined != j && o.lasts(t) && o.pieces.contains(p)) {
                return true;
            }
        }
        return false;
    }

    private boolean restBroken(Job j, int p, List<Job> set) {
        int rest = streets.get(p).rest;
        for (Job o : set) {
            if (!o.pieces.contains(p)) continue;
            if (j.sort != 3 && in(j.begin, o.last + 1, o.last + rest)) return true;
            if (o.sort != 3 && o.state != 3 && in(o.begin, j.last + 1, j.last + rest)) return true;
        }
        return false;
    }

    private int move() {
        int n = 0;
        for (Job j : jobs) {
            if (j.state != 1) continue;
            List<Job> set = new ArrayList<>();
            for (Job o : jobs) {
                if (o.state == 2 || o.state == 3 || o.state == 1 && o.number < j.number) set.add(o);
            }
            if (check(j, j.begin, 3, set) == null) continue;
            n++;
            int d = j.begin;
            while (d < 400 && check(j, d, 2, set) != null) d++;
            if (d == 400) {
                away(j);
            } else {
                j.from(d);
                j.moved++;
            }
        }
        return n;
    }

    private boolean betterStep() {
        int now = price();
        for (Job j : jobs) {
            if (j.state != 1) continue;
            int begin = j.begin;
            for (int d = today; d < 400; d++) {
                j.from(d);
                boolean less = price() < now;
                boolean fits = less && check(j, d, 1, others(j)) == null && othersKeep(j);
                if (fits) {
                    if (d == today) j.state = 2;
                    return true;
                }
                j.from(begin);
            }
        }
        return false;
    }

    private boolean othersKeep(Job j) {
        List<Job> all = new ArrayList<>(jobs);
        Collections.reverse(all);
        for (Job o : all) {
            if (o != j && o.state == 1 && check(o, o.begin, 3, others(o)) != null) return false;
        }
        return true;
    }
}
