import java.math.BigInteger;
import java.util.ArrayDeque;
import java.util.ArrayList;
import java.util.Arrays;
import java.util.Deque;
import java.util.List;
import java.util.NoSuchElementException;
import java.util.function.IntPredicate;

/** The document written a second time, as plainly as it reads and with other means, to hold SeasonWalks against. */
public final class PlainWalks {
    private static final class Monk {
        int flag;
        int pace = 2;
        int stall;
        int likes;
        int lost;
        int late;
        int hunger;
        int rounds;

        Monk copy() {
            Monk m = new Monk();
            m.flag = flag;
            m.pace = pace;
            m.stall = stall;
            m.likes = likes;
            m.lost = lost;
            m.late = late;
            m.hunger = hunger;
            m.rounds = rounds;
            return m;
        }

        boolean likes(int month) {
            return (likes & 1 << month) != 0;
        }
    }

    private static final class Line {
        String word;
        int number;
        PlainText.Condition condition;
    }

    /** All but the tape, fault and the image. */
    private static final class World {
        List<Monk> monks = new ArrayList<>();
        int[] stores = {20, 20, 20, 20};
        int texts;
        int hour;
        int day;
        int bell;
        int mood = 4;
        int fickle;
        int grass = 4;
        int seed = 1;
        List<Line> law;
        List<int[]> log = new ArrayList<>();

        World copy() {
            World w = new World();
            for (Monk m : monks) {
                w.monks.add(m.copy());
            }
            w.stores = stores.clone();
            w.texts = texts;
            w.hour = hour;
            w.day = day;
            w.bell = bell;
            w.mood = mood;
            w.fickle = fickle;
            w.grass = grass;
            w.seed = seed;
            w.law = law;
            w.log = new ArrayList<>(log);
            return w;
        }

        int season(int flag) {
            return mood <= 3 ? mood : flag / 4;
        }

        int stride(int number) {
            Monk m = monks.get(number);
            if (law == null) {
                return Math.max(0, season(m.flag) == 3 ? m.pace - 1 : m.pace);
            }
            int sum = m.pace;
            boolean kept = false;
            for (Line line : law) {
                boolean holds = line.condition == null || line.condition.holds(word -> part(word, number));
                if (holds && line.word.equals("keep")) {
                    kept = true;
                }
                if (holds && line.word.equals("haste")) {
                    sum += line.number;
                }
                if (holds && line.word.equals("slow")) {
                    sum -= line.number;
                }
            }
            return kept ? 0 : sum < 0 ? 0 : sum > 15 ? 15 : sum;
        }

        int part(String word, int number) {
            Monk m = monks.get(number);
            switch (word) {
                case "monk": return number;
                case "flag": return m.flag;
                case "pace": return m.pace;
                case "season": return season(m.flag);
                case "late": return m.late;
                case "hour": return hour;
                case "stall": return m.stall;
                case "corner": return m.flag % 4 == 0 ? 1 : 0;
                case "hungry": return m.hunger > 0 ? 1 : 0;
                default: throw new IllegalStateException(word);
            }
        }

        int draw() {
            seed = seed * 1103515245 + 12345;
            int draw = 0;
            for (int bit = 30; bit >= 16; bit--) {
                draw = draw * 2 + (seed >> bit & 1);
            }
            return draw;
        }

        void note(int kind, int number) {
            log.add(new int[] {day, hour, kind, number, monks.get(number).flag});
            if (log.size() > 60) {
                log.remove(0);
            }
        }

        /** Who was late. */
        List<Integer> pass(boolean draws) {
            for (int i = 0; i < monks.size(); i++) {
                Monk m = monks.get(i);
                if (m.lost > 0) {
                    m.lost--;
                    continue;
                }
                int stride = stride(i);
                boolean came = false;
                for (int step = 0; step < stride; step++) {
                    m.flag++;
                    if (m.flag == 16) {
                        m.flag = 0;
                        came = true;
                    }
                }
                if (came) {
                    m.rounds = Math.min(999, m.rounds + 1);
                    note(1, i);
                }
            }
            for (Monk m : monks) {
                if (m.lost == 0 && stores[m.flag / 4] > 0) {
                    stores[m.flag / 4]--;
                    m.hunger = 0;
                } else if (m.lost == 0) {
                    m.hunger = Math.min(99, m.hunger + 1);
                }
            }
            List<Integer> late = new ArrayList<>();
            for (int i = 0; i < monks.size() && hour % 3 == 0; i++) {
                Monk m = monks.get(i);
                if (m.lost > 0 || m.flag != bell) {
                    m.late = Math.min(999, m.late + 1);
                    note(0, i);
                    late.add(i);
                }
            }
            if (draws && draw() % 100 < fickle) {
                mood = draw() % 5;
            }
            for (int walk = 0; walk < 4; walk++) {
                if (season(4 * walk) == 1) {
                    stores[walk] = Math.min(999, stores[walk] + 2);
                }
            }
            hour = (hour + 1) % 24;
            day = hour == 0 && day < 9999 ? day + 1 : day;
            return late;
        }

        World later(int hours, boolean draws) {
            World w = copy();
            for (int i = 0; i < hours; i++) {
                w.pass(draws);
            }
            return w;
        }

        /** How often each is late in the next offices. */
        int[] lates(int offices) {
            World w = copy();
            int[] times = new int[7];
            while (offices > 0) {
                if (w.hour % 3 == 0) {
                    offices--;
                }
                for (int who : w.pass(false)) {
                    times[who]++;
                }
            }
            return times;
        }

        int late() {
            return monks.stream().mapToInt(m -> m.late).sum();
        }

        int bits(IntPredicate is) {
            int bits = 0;
            for (int i = 0; i < monks.size(); i++) {
                bits |= is.test(i) ? 1 << i : 0;
            }
            return bits;
        }
    }

    private World now = new World();
    private World kept;
    private final Deque<World> acts = new ArrayDeque<>();
    private List<Integer> tape = new ArrayList<>();
    private int fault = -1;

    public int feed(int a, int b, int c, int d, int e) {
        if (tape.size() > 380) {
            return -1;
        }
        for (int number : new int[] {a, b, c, d, e}) {
            tape.addAll(Arrays.asList(number >>> 24, number >>> 16 & 255, number >>> 8 & 255, number & 255));
        }
        return tape.size();
    }

    public boolean end(int n) {
        if (n < 0 || tape.size() < n) {
            return false;
        }
        tape = new ArrayList<>(tape.subList(0, n));
        return true;
    }

    private List<Integer> used() {
        List<Integer> bytes = tape;
        tape = new ArrayList<>();
        return bytes;
    }

    public int cloister() {
        World next = now.copy();
        PlainText text = new PlainText(used());
        fault = -1;
        try {
            text.lines(14, () -> cloisterLine(text, next));
        } catch (PlainText.Wrong wrong) {
            fault = wrong.at;
            throw new IllegalArgumentException();
        }
        if (now.texts == 12) {
            throw new UnsupportedOperationException();
        }
        next.texts++;
        now = next;
        acts.clear();
        return now.texts;
    }

    private static void cloisterLine(PlainText text, World next) {
        String word = text.word("monk", "bell", "mood", "fickle", "grass", "store", "hour", "day");
        switch (word) {
            case "monk":
                if (next.monks.size() == 7) {
                    throw text.wrongBehind();
                }
                Monk m = new Monk();
                text.word("at");
                m.flag = text.number(0, 15);
                text.word("stall");
                m.stall = text.number(0, 11);
                for (Monk other : next.monks) {
                    if (other.stall == m.stall) {
                        throw text.wrongBehind();
                    }
                }
                if (text.has("pace")) {
                    text.word("pace");
                    m.pace = text.number(0, 8);
                }
                if (text.has("likes")) {
                    text.word("likes");
                    m.likes = text.letters();
                }
                next.monks.add(m);
                break;
            case "bell":
                next.bell = text.number(0, 15);
                break;
            case "mood":
                next.mood = season(text.word("spring", "summer", "autumn", "winter", "own"));
                break;
            case "fickle":
                next.fickle = text.number(0, 100);
                break;
            case "grass":
                next.grass = text.number(0, 20);
                break;
            case "store":
                int walk = season(text.word("spring", "summer", "autumn", "winter"));
                next.stores[walk] = text.number(0, 999);
                break;
            case "hour":
                next.hour = text.number(0, 23);
                break;
            default:
                next.day = text.number(0, 999);
                break;
        }
    }

    private static int season(String word) {
        return Arrays.asList("spring", "summer", "autumn", "winter", "own").indexOf(word);
    }

    public int law() {
        List<Line> law = new ArrayList<>();
        PlainText text = new PlainText(used());
        fault = -1;
        try {
            text.lines(12, () -> {
                Line line = new Line();
                line.word = text.word("slow", "haste", "keep");
                if (!line.word.equals("keep")) {
                    line.number = text.number(0, 20);
                }
                if (text.has("if")) {
                    text.word("if");
                    line.condition = text.condition(6);
                }
                law.add(line);
            });
        } catch (PlainText.Wrong wrong) {
            fault = wrong.at;
            throw new IllegalArgumentException();
        }
        now.law = law;
        acts.clear();
        return law.size();
    }

    public int fault() {
        return fault;
    }

    private Monk the(int monk) {
        within(monk, 0, now.monks.size() - 1, new IndexOutOfBoundsException());
        return now.monks.get(monk);
    }

    private static void within(int n, int least, int most, RuntimeException thrown) {
        if (n < least || n > most) {
            throw thrown;
        }
    }

    private static void flagOrWalk(int n, int most) {
        within(n, 0, most, new IndexOutOfBoundsException());
    }

    private static void number(int n, int least, int most) {
        within(n, least, most, new IllegalArgumentException());
    }

    private void act() {
        acts.push(now.copy());
        if (acts.size() > 12) {
            acts.removeLast();
        }
    }

    public int monk(int monk, int what) {
        Monk m = the(monk);
        within(what, 0, 9, new NoSuchElementException());
        int lag = now.late() == 0 ? 0 : m.late * 100 / now.late();
        return new int[] {m.flag, m.pace, m.stall, m.likes, m.lost, m.late, m.hunger, m.rounds, now.stride(monk),
            lag}[what];
    }

    public int store(int walk) {
        flagOrWalk(walk, 3);
        return now.stores[walk];
    }

    public int season(int flag) {
        flagOrWalk(flag, 15);
        return now.season(flag);
    }

    public int hours(int n) {
        number(n, 1, 72);
        act();
        int late = 0;
        for (int i = 0; i < n; i++) {
            late += now.pass(true).size();
        }
        return late;
    }

    public int cross(int monk) {
        Monk m = the(monk);
        if (m.lost > 0) {
            throw new IllegalStateException();
        }
        act();
        m.flag = m.flag < 8 ? m.flag + 8 : m.flag - 8;
        m.lost = now.grass;
        return m.flag;
    }

    public int bell(int flag) {
        flagOrWalk(flag, 15);
        act();
        now.bell = flag;
        return acts.peek().bell;
    }

    public int mood(int n) {
        number(n, 0, 4);
        act();
        now.mood = n;
        return acts.peek().mood;
    }

    public int change(int monk, int other) {
        Monk one = the(monk);
        Monk two = the(other);
        if (one == two) {
            throw new IllegalArgumentException();
        }
        act();
        int stall = one.stall;
        one.stall = two.stall;
        two.stall = stall;
        return one.stall;
    }

    public int pace(int monk, int n) {
        Monk m = the(monk);
        number(n, 0, 8);
        act();
        m.pace = n;
        return acts.peek().monks.get(monk).pace;
    }

    public int fill(int walk, int n) {
        flagOrWalk(walk, 3);
        number(n, 1, 99);
        act();
        now.stores[walk] = Math.min(999, now.stores[walk] + n);
        return now.stores[walk];
    }

    public int find(int monk) {
        Monk m = the(monk);
        if (m.lost == 0) {
            throw new IllegalStateException();
        }
        act();
        m.lost = 0;
        return acts.peek().monks.get(monk).lost;
    }

    public int choir() {
        return now.bits(i -> now.monks.get(i).lost == 0 && now.monks.get(i).flag == now.bell);
    }

    public int when(int monk, int flag) {
        the(monk);
        flagOrWalk(flag, 15);
        for (int n = 0; n <= 72; n++) {
            Monk m = now.later(n, false).monks.get(monk);
            if (m.lost == 0 && m.flag == flag) {
                return n;
            }
        }
        return -1;
    }

    public int meet(int monk, int other) {
        if (the(monk) == the(other)) {
            throw new IllegalArgumentException();
        }
        for (int n = 0; n <= 72; n++) {
            World w = now.later(n, false);
            Monk one = w.monks.get(monk);
            Monk two = w.monks.get(other);
            if (one.lost + two.lost == 0 && one.flag == two.flag) {
                return n;
            }
        }
        return -1;
    }

    public int lates(int n) {
        number(n, 0, 9);
        return Arrays.stream(now.lates(n)).sum();
    }

    public int tardy() {
        int[] times = now.lates(8);
        int most = Arrays.stream(times).max().getAsInt();
        return most == 0 ? -1 : indexOf(times, most);
    }

    private static int indexOf(int[] row, int value) {
        for (int i = 0; i < row.length; i++) {
            if (row[i] == value) {
                return i;
            }
        }
        return -1;
    }

    public int ring() {
        int[] late = new int[16];
        for (int flag = 0; flag < 16; flag++) {
            World w = now.copy();
            w.bell = flag;
            late[flag] = Arrays.stream(w.lates(8)).sum();
        }
        return indexOf(late, Arrays.stream(late).min().getAsInt());
    }

    public int humour() {
        int[] late = new int[5];
        for (int mood = 0; mood < 5; mood++) {
            World w = now.copy();
            w.mood = mood;
            late[mood] = Arrays.stream(w.lates(8)).sum();
        }
        return indexOf(late, Arrays.stream(late).min().getAsInt());
    }

    public int starves() {
        for (int n = 0; n <= 72; n++) {
            if (now.later(n, false).monks.stream().anyMatch(m -> m.hunger > 0)) {
                return n;
            }
        }
        return -1;
    }

    /** By widening from one flag till nothing gets nearer. */
    private int[] fars(int from) {
        int[] far = new int[16];
        Arrays.fill(far, 1000);
        far[from] = 0;
        for (int times = 0; times < 40; times++) {
            for (int flag = 0; flag < 16; flag++) {
                far[(flag + 1) % 16] = Math.min(far[(flag + 1) % 16], far[flag] + 1);
                far[(flag + 15) % 16] = Math.min(far[(flag + 15) % 16], far[flag] + 1);
                far[(flag + 8) % 16] = Math.min(far[(flag + 8) % 16], far[flag] + Math.max(1, now.grass));
            }
        }
        return far;
    }

    public int far(int flag, int other) {
        flagOrWalk(flag, 15);
        flagOrWalk(other, 15);
        return fars(flag)[other];
    }

    public int road(int flag, boolean next) {
        List<Integer> flags = used();
        flagOrWalk(flag, 15);
        if (flags.size() > 7 || flags.stream().distinct().count() < flags.size()
                || flags.stream().anyMatch(f -> f > 15)) {
            throw new IllegalArgumentException();
        }
        int[][] far = new int[16][];
        for (int f = 0; f < 16; f++) {
            far[f] = fars(f);
        }
        flags.sort(null);
        int[] best = {Integer.MAX_VALUE, -1};
        tryRoads(far, flag, flags, 0, -1, best);
        return next ? best[1] : best[0];
    }

    private static void tryRoads(int[][] far, int at, List<Integer> left, int way, int first, int[] best) {
        if (left.isEmpty() && way < best[0]) {
            best[0] = way;
            best[1] = first;
        }
        for (Integer flag : left) {
            List<Integer> others = new ArrayList<>(left);
            others.remove(flag);
            tryRoads(far, flag, others, way + far[at][flag], first < 0 ? flag : first, best);
        }
    }

    public int seats(int monk) {
        if (monk != -1) {
            the(monk);
        }
        List<Integer> rest = new ArrayList<>();
        for (int i = 0; i < now.monks.size(); i++) {
            rest.add(now.monks.get(i).likes);
        }
        int many = seated(rest);
        if (monk == -1) {
            return many;
        }
        for (int i = 0; i < now.monks.size(); i++) {
            int likes = rest.remove(0);
            int seat = -1;
            for (int stall = 0; stall < 12 && seat < 0; stall++) {
                int taken = stall;
                List<Integer> others = new ArrayList<>();
                rest.forEach(l -> others.add(l & ~(1 << taken)));
                if ((likes & 1 << stall) != 0 && 1 + seated(others) == many) {
                    seat = stall;
                    rest = others;
                    many--;
                }
            }
            if (i == monk) {
                return seat;
            }
        }
        throw new IllegalStateException();
    }

    /** The most that can be seated, by ways that make room. */
    private static int seated(List<Integer> likes) {
        int[] sitter = new int[12];
        Arrays.fill(sitter, -1);
        int many = 0;
        for (int i = 0; i < likes.size(); i++) {
            many += makeRoom(likes, i, sitter, new boolean[12]) ? 1 : 0;
        }
        return many;
    }

    private static boolean makeRoom(List<Integer> likes, int monk, int[] sitter, boolean[] asked) {
        for (int stall = 0; stall < 12; stall++) {
            if ((likes.get(monk) & 1 << stall) != 0 && !asked[stall]) {
                asked[stall] = true;
                if (sitter[stall] < 0 || makeRoom(likes, sitter[stall], sitter, asked)) {
                    sitter[stall] = monk;
                    return true;
                }
            }
        }
        return false;
    }

    public int shown() {
        for (int many = 1; many <= now.monks.size(); many++) {
            for (int set = 1; set < 1 << now.monks.size(); set++) {
                int months = 0;
                for (int i = 0; i < now.monks.size(); i++) {
                    months |= (set >> i & 1) == 1 ? now.monks.get(i).likes : 0;
                }
                if (Integer.bitCount(set) == many && Integer.bitCount(months) < many) {
                    return set;
                }
            }
        }
        return 0;
    }

    public int serves(int month) {
        flagOrWalk(month, 11);
        return now.bits(i -> now.monks.get(i).likes(month));
    }

    public int trade(int monk, boolean many) {
        the(monk);
        List<Integer> left = new ArrayList<>();
        for (int i = 0; i < now.monks.size(); i++) {
            left.add(i);
        }
        while (true) {
            // From any who is left the pointers lead into a ring.
            int at = left.get(0);
            for (int steps = 0; steps < 20; steps++) {
                at = rather(at, left);
            }
            List<Integer> ring = new ArrayList<>();
            while (!ring.contains(at)) {
                ring.add(at);
                at = rather(at, left);
            }
            if (ring.contains(monk)) {
                return many ? ring.size() : rather(monk, left);
            }
            left.removeAll(ring);
        }
    }

    private int rather(int monk, List<Integer> left) {
        Monk m = now.monks.get(monk);
        int best = -1;
        for (int other : left) {
            if (best < 0 || isRather(m, now.monks.get(other).stall, now.monks.get(best).stall)) {
                best = other;
            }
        }
        return best;
    }

    private static boolean isRather(Monk m, int month, int other) {
        if (m.likes(month) != m.likes(other)) {
            return m.likes(month);
        }
        return monthsApart(m.stall, month) < monthsApart(m.stall, other);
    }

    private static int monthsApart(int a, int b) {
        int apart = Math.abs(a - b);
        return apart > 6 ? 12 - apart : apart;
    }

    public int content() {
        return now.bits(i -> now.monks.get(i).likes(now.monks.get(i).stall));
    }

    /** The rows on the tape as an hour and an answer each. */
    private List<int[]> rows(int mostAnswer) {
        List<Integer> bytes = used();
        if (bytes.size() > 40 || bytes.size() % 2 == 1) {
            throw new IllegalArgumentException();
        }
        List<int[]> rows = new ArrayList<>();
        for (int i = 0; i < bytes.size(); i += 2) {
            number(bytes.get(i), 0, 23);
            number(bytes.get(i + 1), 0, mostAnswer);
            rows.add(new int[] {bytes.get(i), bytes.get(i + 1)});
        }
        return rows;
    }

    private List<int[]> walksThatFit() {
        List<int[]> rows = rows(1);
        List<int[]> fit = new ArrayList<>();
        for (int flag = 0; flag < 16; flag++) {
            for (int stride = 0; stride <= 8; stride++) {
                int f = flag;
                int s = stride;
                if (rows.stream().allMatch(row -> wasAtBell(f, s, row[0]) == (row[1] == 1))) {
                    fit.add(new int[] {flag, stride});
                }
            }
        }
        return fit;
    }

    private boolean wasAtBell(int flag, int stride, int hours) {
        for (int i = 0; i < hours; i++) {
            flag = (flag + stride) % 16;
        }
        return flag == now.bell;
    }

    public int seen(boolean where) {
        List<int[]> fit = walksThatFit();
        int bits = 0;
        for (int[] pair : fit) {
            bits |= 1 << pair[0];
        }
        return where ? bits : fit.size();
    }

    public int ask() {
        List<int[]> fit = walksThatFit();
        int[] parts = new int[24];
        for (int hours = 0; hours < 24; hours++) {
            int h = hours;
            int at = (int) fit.stream().filter(pair -> wasAtBell(pair[0], pair[1], h)).count();
            parts[hours] = Math.max(at, fit.size() - at);
        }
        return fit.size() < 2 ? -1 : indexOf(parts, Arrays.stream(parts).min().getAsInt());
    }

    private List<int[]> rulesThatFit() {
        List<int[]> rows = rows(4);
        List<int[]> fit = new ArrayList<>();
        for (int a = 0; a < 5; a++) {
            for (int b = 0; b < 5; b++) {
                int[] pair = {a, b};
                if (rows.stream().allMatch(row -> (pair[0] * row[0] + pair[1]) % 5 == row[1])) {
                    fit.add(pair);
                }
            }
        }
        return fit;
    }

    public int rule(boolean least) {
        List<int[]> fit = rulesThatFit();
        if (!least) {
            return fit.size();
        }
        return fit.stream().mapToInt(pair -> 5 * pair[0] + pair[1]).min().orElse(-1);
    }

    public int tells() {
        List<int[]> fit = rulesThatFit();
        int[] greatest = new int[24];
        for (int hour = 0; hour < 24; hour++) {
            int[] parts = new int[5];
            for (int[] pair : fit) {
                parts[(pair[0] * hour + pair[1]) % 5]++;
            }
            greatest[hour] = Arrays.stream(parts).max().getAsInt();
        }
        return fit.size() < 2 ? -1 : indexOf(greatest, Arrays.stream(greatest).min().getAsInt());
    }

    public int share(int walk, int n) {
        flagOrWalk(walk, 3);
        number(n, 0, 999);
        int[] stores = now.stores.clone();
        for (int i = 0; i < n; i++) {
            int least = indexOf(stores, Arrays.stream(stores).min().getAsInt());
            stores[least] = stores[least] == 999 ? 999 : stores[least] + 1;
        }
        return stores[walk];
    }

    public int feeds(int walk) {
        flagOrWalk(walk, 3);
        int there = (int) now.monks.stream().filter(m -> m.lost == 0 && m.flag / 4 == walk).count();
        return there == 0 ? -1 : now.stores[walk] / there;
    }

    public int pairs(int monk) {
        if (monk != -1) {
            the(monk);
        }
        int[] with = new int[now.monks.size()];
        Arrays.fill(with, -2);
        int[] first = new int[now.monks.size()];
        int most = tryPairs(with, first, 0, -1);
        return monk == -1 ? most : first[monk];
    }

    /** Tries all ways, the first ones first; keeps a way only if it is better than all before. */
    private int tryPairs(int[] with, int[] first, int monk, int most) {
        if (monk == with.length) {
            int shared = 0;
            for (int i = 0; i < with.length; i++) {
                shared += with[i] > i ? Integer.bitCount(now.monks.get(i).likes & now.monks.get(with[i]).likes) : 0;
            }
            if (shared > most) {
                System.arraycopy(with, 0, first, 0, with.length);
            }
            return Math.max(shared, most);
        }
        if (with[monk] != -2) {
            return tryPairs(with, first, monk + 1, most);
        }
        with[monk] = -1;
        most = tryPairs(with, first, monk + 1, most);
        for (int other = monk + 1; other < with.length; other++) {
            if (with[other] == -2) {
                with[monk] = other;
                with[other] = monk;
                most = tryPairs(with, first, monk + 1, most);
                with[other] = -2;
            }
        }
        with[monk] = -2;
        return most;
    }

    public int watch() {
        for (int many = 0; many <= now.monks.size(); many++) {
            for (int set = 0; set < 1 << now.monks.size(); set++) {
                if (Integer.bitCount(set) == many && watches(set)) {
                    return set;
                }
            }
        }
        return -1;
    }

    private boolean watches(int set) {
        boolean[] watched = new boolean[16];
        for (int i = 0; i < now.monks.size(); i++) {
            if ((set >> i & 1) == 1) {
                if (now.monks.get(i).lost > 0) {
                    return false;
                }
                for (int by = -2; by <= 2; by++) {
                    watched[(now.monks.get(i).flag + by + 16) % 16] = true;
                }
            }
        }
        return now.monks.stream().allMatch(m -> watched[m.flag]);
    }

    public boolean chapter(int monks) {
        int by = 0;
        int against = 0;
        for (int i = 0; i < now.monks.size(); i++) {
            if ((monks >> i & 1) == 1) {
                by += now.monks.get(i).rounds;
            } else {
                against += now.monks.get(i).rounds;
            }
        }
        return by > against;
    }

    public int swings(int monk) {
        the(monk);
        int sets = 0;
        for (int set = 0; set < 1 << now.monks.size(); set++) {
            if ((set >> monk & 1) == 1 && chapter(set) && !chapter(set - (1 << monk))) {
                sets++;
            }
        }
        return sets;
    }

    public int elder() {
        int best = -1;
        for (int i = 0; i < now.monks.size(); i++) {
            if (swings(i) > (best < 0 ? 0 : swings(best))) {
                best = i;
            }
        }
        return best;
    }

    public int rests(int monk) {
        Monk m = the(monk);
        if (m.lost > 0) {
            return -1;
        }
        int apart = Math.abs(m.flag - now.bell);
        int steps = Math.min(apart, 16 - apart);
        int[][] his = {{-now.grass, steps}, {0, 0}};
        int[][] gardeners = {{3, -2}, {-1, 0}};
        int bits = 0;
        for (int h = 0; h < 2; h++) {
            for (int g = 0; g < 2; g++) {
                if (his[1 - h][g] <= his[h][g] && gardeners[h][1 - g] <= gardeners[h][g]) {
                    bits |= 1 << 2 * h + g;
                }
            }
        }
        return bits;
    }

    public int odds(int n, int k) {
        number(n, 0, 6);
        number(k, 0, 6);
        BigInteger sum = BigInteger.ZERO;
        for (int way = 0; way < 1 << n; way++) {
            if (Integer.bitCount(way) >= k) {
                BigInteger share = BigInteger.ONE;
                for (int i = 0; i < n; i++) {
                    share = share.multiply(BigInteger.valueOf((way >> i & 1) == 1 ? now.fickle : 100 - now.fickle));
                }
                sum = sum.add(share);
            }
        }
        return sum.multiply(BigInteger.valueOf(10000)).divide(BigInteger.valueOf(100).pow(n)).intValue();
    }

    public int empty() {
        int bits = 0;
        for (int walk = 0; walk < 4; walk++) {
            int w = walk;
            bits |= now.monks.stream().noneMatch(m -> m.flag / 4 == w) ? 1 << walk : 0;
        }
        return bits;
    }

    public int throng() {
        int[] many = new int[4];
        now.monks.forEach(m -> many[m.flag / 4]++);
        return indexOf(many, Arrays.stream(many).max().getAsInt());
    }

    public int gone() {
        return now.bits(i -> now.monks.get(i).lost > 0);
    }

    public int round(int n) {
        number(n, 0, 999);
        return now.bits(i -> now.monks.get(i).rounds >= n);
    }

    public int hungriest() {
        int most = now.monks.stream().mapToInt(m -> m.hunger).max().orElse(0);
        return most == 0 ? -1 : indexOf(now.monks.stream().mapToInt(m -> m.hunger).toArray(), most);
    }

    public int alike() {
        int pairs = 0;
        for (Monk one : now.monks) {
            for (Monk two : now.monks) {
                pairs += one != two && one.pace == two.pace && one.flag == two.flag ? 1 : 0;
            }
        }
        return pairs / 2;
    }

    public int ahead(int monk, int n, int what) {
        the(monk);
        number(n, 0, 72);
        within(what, 0, 2, new NoSuchElementException());
        Monk m = now.later(n, false).monks.get(monk);
        return new int[] {m.flag, m.late, m.hunger}[what];
    }

    public int trial(int n, boolean mood) {
        number(n, 0, 72);
        World w = now.later(n, true);
        return mood ? w.mood : w.late();
    }

    public int span(int n, boolean most) {
        number(n, 0, 72);
        int[] late = new int[6];
        for (int seed = 1; seed <= 6; seed++) {
            World w = now.copy();
            w.seed = seed;
            late[seed - 1] = w.later(n, true).late();
        }
        Arrays.sort(late);
        return most ? late[5] : late[0];
    }

    public int led(int monk, boolean flag) {
        the(monk);
        int many = 0;
        int where = -1;
        for (int[] row : now.log) {
            if (row[3] == monk) {
                many++;
                where = row[4];
            }
        }
        return flag ? where : many;
    }

    public int log(int ago, int what) {
        within(what, 0, 4, new NoSuchElementException());
        return ago < 0 || ago >= now.log.size() ? -1 : now.log.get(now.log.size() - 1 - ago)[what];
    }

    public int seed(int n) {
        int before = now.seed;
        now.seed = n;
        return before;
    }

    public boolean undo() {
        if (acts.isEmpty()) {
            return false;
        }
        now = acts.pop();
        return true;
    }

    public void image() {
        kept = now.copy();
    }

    public boolean back() {
        if (kept == null) {
            return false;
        }
        now = kept.copy();
        acts.clear();
        return true;
    }

    public int count(int what) {
        int[] counts = {now.monks.size(), now.texts, now.law == null ? -1 : now.law.size(), now.hour, now.day, now.bell,
            now.mood, now.fickle, now.grass, Arrays.stream(now.stores).sum(), now.late(), now.log.size(), acts.size()};
        return what < 0 || what > 12 ? -1 : counts[what];
    }
}
