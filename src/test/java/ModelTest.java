import java.util.ArrayDeque;
import java.util.ArrayList;
import java.util.Arrays;
import java.util.HashMap;
import java.util.List;
import java.util.Map;
import java.util.Random;
import java.util.TreeMap;
import java.util.TreeSet;
import java.util.function.IntUnaryOperator;
import java.util.regex.Matcher;
import java.util.regex.Pattern;

/** Long runs of calls by fixed seeds against a second, slow model that is written from the document alone. */
public final class ModelTest {
    private static final int RUNS = 1500;

    public static void main(String[] args) {
        int wrong = 0;
        for (int run = 0; run < RUNS && wrong < 20; run++) {
            wrong += oneRun(run);
        }
        System.out.println(wrong == 0 ? "the model agrees" : wrong + " runs differ");
        if (wrong != 0) {
            System.exit(1);
        }
    }

    private static int oneRun(int seed) {
        Random random = new Random(seed);
        UsherRows real = new UsherRows();
        Model model = new Model();
        Script script = new Script(random, seed % 5);
        for (int n = 0; n < 512; n++) {
            Call call = script.next(model);
            long got = call.on(real);
            long want = call.on(model);
            if (got != want) {
                System.out.println("run " + seed + ", call " + n + ": " + call + " answered " + got + ", due is " + want);
                return 1;
            }
        }
        return 0;
    }

    /** One call, for the class or for the model. */
    private static final class Call {
        final String name;
        final int[] a;

        Call(String name, int... a) {
            this.name = name;
            this.a = a;
        }

        @Override
        public String toString() {
            return name + Arrays.toString(a);
        }

        long on(UsherRows x) {
            switch (name) {
                case "hall": return x.hall();
                case "row": return x.row(a[0], a[1]);
                case "soul": return x.soul(a[0], a[1]);
                case "type": return x.type(a[0]);
                case "clear": return x.clear();
                case "read": return x.read();
                case "shows": return x.shows(a[0], a[1]);
                case "moves": return x.moves(a[0], a[1]);
                case "sends": return x.sends(a[0]);
                case "coat": return x.coat(a[0], a[1]);
                case "minutes": return x.minutes(a[0]);
                case "undo": return x.undo();
                case "of": return x.of(a[0], a[1]);
                case "about": return x.about(a[0], a[1]);
                case "makes": return x.makes(a[0], a[1]);
                case "order": return x.order(a[0]);
                case "best": return x.best(a[0], a[1]);
                case "beside": return x.beside(a[0], a[1], a[2]);
                case "wrong": return x.wrong();
                case "swaps": return x.swaps();
                default: return onSecondHalf(x);
            }
        }

        private long onSecondHalf(UsherRows x) {
            switch (name) {
                case "seen": return x.seen(a[0], a[1], a[2]);
                case "where": return x.where(a[0], a[1]);
                case "tell": return x.tell(a[0]);
                case "note": return x.note(a[0], a[1], a[2]);
                case "mark": return x.mark(a[0], a[1], a[2], a[3]);
                case "forget": return x.forget(a[0]);
                case "is": return x.is(a[0]);
                case "look": return x.look(a[0]);
                case "kinds": return x.kinds(a[0]);
                case "ask": return x.ask(a[0]);
                case "whispers": return x.whispers(a[0], a[1], a[2]);
                case "wet": return x.wet(a[0], a[1]);
                case "evenings": return x.evenings(a[0], a[1]);
                case "part": return x.part(a[0]);
                case "image": return x.image(a[0]);
                case "from": return x.from(a[0]);
                case "status": return x.status(a[0]);
                case "count": return x.count(a[0]);
                case "digest": return x.digest();
                default: throw new IllegalStateException(name);
            }
        }

        long on(Model m) {
            long answer = m.answer(name, a);
            if (answer == Model.REFUSED) {
                return m.refusal;
            }
            return answer;
        }
    }

    /** What the document tells, in the plainest and slowest way. */
    private static final class Model {
        static final long REFUSED = Long.MIN_VALUE;

        static final class Soul {
            int kind, stub, cell = -1;
        }

        static final class World {
            int[] rows = new int[5];
            List<Soul> souls = new ArrayList<>();
            TreeSet<Integer> coats = new TreeSet<>();
            int minute, fuss;
            List<int[]> seen = new ArrayList<>(), notes = new ArrayList<>(), marks = new ArrayList<>();
            List<World> past = new ArrayList<>();

            World copy() {
                World w = new World();
                w.rows = rows.clone();
                for (Soul s : souls) {
                    Soul t = new Soul();
                    t.kind = s.kind;
                    t.stub = s.stub;
                    t.cell = s.cell;
                    w.souls.add(t);
                }
                w.coats.addAll(coats);
                w.minute = minute;
                w.fuss = fuss;
                w.seen.addAll(seen);
                w.notes.addAll(notes);
                w.marks.addAll(marks);
                w.past.addAll(past);
                return w;
            }

            Integer who(int c) {
                for (int i = 0; i < souls.size(); i++) {
                    if (souls.get(i).cell == c) {
                        return i;
                    }
                }
                return null;
            }

            boolean free(int c) {
                return who(c) == null && !coats.contains(c);
            }

            int knees(int c) {
                int n = 0;
                for (int s = 0; s < c % 6; s++) {
                    n += who(c / 6 * 6 + s) == null ? 0 : 1;
                }
                return n;
            }

            int sees(int c) {
                return Model.sees(rows[c / 6], c % 6);
            }

            int makes(int i, int c) {
                return Model.makes(souls.get(i).kind, knees(c), minute);
            }

            int show(int i, int c) {
                int f = makes(i, c);
                souls.get(i).cell = c;
                fuss += f;
                minute++;
                return f;
            }

            int send(int i) {
                int f = makes(i, souls.get(i).cell);
                souls.get(i).cell = -1;
                fuss += f;
                minute++;
                return f;
            }
        }

        World w = new World();
        World[] images = new World[2];
        StringBuilder text = new StringBuilder();
        long above = 0, below = 1;
        int[] status = new int[3];
        long refusal;

        static int sees(int kind, int s) {
            int[] plain = {4, 6, 8, 8, 6, 4};
            switch (kind) {
                case 0: return plain[s];
                case 1: return s == 2 ? 0 : plain[s];
                case 2: return sees(0, s) + 4;
                case 3: return sees(0, s) / 2;
                case 4: return Math.max(sees(1, s) - 2, 0);
                default: return Math.max(sees(2, s) - s - s, 0);
            }
        }

        static int makes(int kind, int k, int t) {
            switch (kind) {
                case 0: return k;
                case 1: return makes(0, k, t) + 2;
                case 2: return t < 10 ? makes(0, k, t) : makes(0, k, t) + makes(0, k, t);
                case 3: return new int[] {0, 1, 1, 2, 2, 3}[k];
                case 4: return makes(1, k, t) - 1;
                default: return k == 0 ? makes(2, k, t) : makes(2, k, t) + 3;
            }
        }

        long refuse(int which, long answer) {
            status[which]++;
            refusal = answer;
            return REFUSED;
        }

        long bad() {
            return refuse(0, -2);
        }

        long no() {
            return refuse(1, -3);
        }

        boolean in(int v, int least, int most) {
            return v >= least && v <= most;
        }

        boolean soul(int i) {
            return in(i, 0, w.souls.size() - 1);
        }

        boolean out(int i) {
            return w.souls.get(i).cell == -1;
        }

        void keep() {
            World before = w.copy();
            before.past.clear();
            w.past.add(before);
            if (w.past.size() > 8) {
                w.past.remove(0);
            }
        }

        long answer(String name, int[] a) {
            switch (name) {
                case "hall": {
                    int n = w.souls.size();
                    w = new World();
                    return n;
                }
                case "row": {
                    if (!in(a[0], 0, 4) || !in(a[1], 0, 5)) return bad();
                    int was = w.rows[a[0]];
                    w.rows[a[0]] = a[1];
                    w.past.clear();
                    return was;
                }
                case "soul": {
                    if (!in(a[0], 0, 5) || !in(a[1], 0, 29)) return bad();
                    if (w.souls.size() == 7) return refuse(2, -4);
                    come(w, a[0], a[1]);
                    w.past.clear();
                    return w.souls.size() - 1;
                }
                case "type": {
                    if (!in(a[0], 0, 127)) return bad();
                    if (text.length() == 150) return refuse(2, -4);
                    text.append((char) a[0]);
                    return text.length();
                }
                case "clear": {
                    int n = text.length();
                    text = new StringBuilder();
                    return n;
                }
                case "read": return read();
                case "shows": {
                    if (!soul(a[0]) || !in(a[1], 0, 29)) return bad();
                    if (!out(a[0]) || !w.free(a[1]) || w.minute == 9999) return no();
                    keep();
                    return w.show(a[0], a[1]);
                }
                case "moves": {
                    if (!soul(a[0]) || !in(a[1], 0, 29)) return bad();
                    if (out(a[0]) || !w.free(a[1]) || w.minute == 9999) return no();
                    keep();
                    int f = w.makes(a[0], w.souls.get(a[0]).cell);
                    w.souls.get(a[0]).cell = -1;
                    f += w.makes(a[0], a[1]);
                    w.souls.get(a[0]).cell = a[1];
                    w.fuss += f;
                    w.minute++;
                    return f;
                }
                case "sends": {
                    if (!soul(a[0])) return bad();
                    if (out(a[0]) || w.minute == 9999) return no();
                    keep();
                    return w.send(a[0]);
                }
                case "coat": {
                    if (!in(a[0], 0, 29) || !in(a[1], 0, 1)) return bad();
                    if (w.coats.contains(a[0]) ? a[1] == 1 : a[1] == 0) return no();
                    if (w.who(a[0]) != null) return no();
                    keep();
                    if (a[1] == 1) w.coats.add(a[0]); else w.coats.remove(a[0]);
                    return 1;
                }
                case "minutes": {
                    if (!in(a[0], 1, 99)) return bad();
                    keep();
                    w.minute = Math.min(9999, w.minute + a[0]);
                    return w.minute;
                }
                case "undo": return undo();
                default: return answerAsking(name, a);
            }
        }

        static void come(World into, int kind, int stub) {
            Soul s = new Soul();
            s.kind = kind;
            s.stub = stub;
            into.souls.add(s);
        }

        long undo() {
            if (w.past.isEmpty()) return no();
            World before = w.past.remove(w.past.size() - 1);
            for (int i = 0; i < w.souls.size(); i++) w.souls.get(i).cell = before.souls.get(i).cell;
            w.coats = new TreeSet<>(before.coats);
            w.fuss = before.fuss;
            w.minute = before.minute;
            return w.minute;
        }

        long answerAsking(String name, int[] a) {
            switch (name) {
                case "of": {
                    if (!soul(a[0]) || !in(a[1], 0, 2)) return bad();
                    Soul s = w.souls.get(a[0]);
                    return new int[] {s.kind, s.stub, s.cell}[a[1]];
                }
                case "about": {
                    if (!in(a[0], 0, 29) || !in(a[1], 0, 4)) return bad();
                    Integer who = w.who(a[0]);
                    return new int[] {w.rows[a[0] / 6], who == null ? -1 : who, w.coats.contains(a[0]) ? 1 : 0,
                        w.knees(a[0]), w.sees(a[0])}[a[1]];
                }
                case "makes": {
                    if (!soul(a[0]) || !in(a[1], 0, 29)) return bad();
                    return out(a[0]) ? w.makes(a[0], a[1]) : no();
                }
                case "order": {
                    if (a[0] < -1) return refuse(0, -10);
                    List<Integer> first = new ArrayList<>();
                    int least = order(first);
                    if (a[0] == -1) return least;
                    return a[0] < first.size() ? first.get(a[0]) : -5;
                }
                case "best": {
                    if (!soul(a[0]) || !in(a[1], 0, 1)) return refuse(0, -1001);
                    if (!out(a[0])) return refuse(1, -1002);
                    int cell = -1, most = -1000;
                    for (int c = 29; c >= 0; c--) {
                        if (w.free(c) && w.sees(c) - w.makes(a[0], c) >= most) {
                            cell = c;
                            most = w.sees(c) - w.makes(a[0], c);
                        }
                    }
                    return a[1] == 0 ? cell : most;
                }
                case "beside": return beside(a[0], a[1], a[2]);
                case "wrong": {
                    int bits = 0;
                    for (int i = 0; i < w.souls.size(); i++) {
                        if (!out(i) && w.souls.get(i).cell != w.souls.get(i).stub) bits += 1 << i;
                    }
                    return bits;
                }
                case "swaps": return swaps();
                default: return answerGuessing(name, a);
            }
        }

        int order(List<Integer> first) {
            List<Integer> all = new ArrayList<>();
            TreeSet<Integer> stubs = new TreeSet<>();
            for (int i = 0; i < w.souls.size(); i++) {
                if (out(i) && w.free(w.souls.get(i).stub) && stubs.add(w.souls.get(i).stub)) all.add(i);
            }
            int[] least = {Integer.MAX_VALUE};
            World v = w.copy();
            tryAll(v, all, new ArrayList<>(), 0, least, first);
            return least[0];
        }

        /** Every order, rising; only a lesser fuss takes the place of the one that was first. */
        void tryAll(World v, List<Integer> all, List<Integer> sofar, int fuss, int[] least, List<Integer> first) {
            if (sofar.size() == all.size()) {
                if (fuss < least[0]) {
                    least[0] = fuss;
                    first.clear();
                    first.addAll(sofar);
                }
                return;
            }
            for (int i : all) {
                if (v.souls.get(i).cell == -1) {
                    int f = v.show(i, v.souls.get(i).stub);
                    sofar.add(i);
                    tryAll(v, all, sofar, fuss + f, least, first);
                    sofar.remove(sofar.size() - 1);
                    v.souls.get(i).cell = -1;
                    v.minute--;
                    v.fuss -= f;
                }
            }
        }

        long beside(int a, int b, int what) {
            if (!soul(a) || !soul(b) || a == b || !in(what, 0, 1)) return bad();
            if (!out(a) || !out(b)) return no();
            TreeMap<Integer, TreeSet<Integer>> byFuss = new TreeMap<>();
            for (int c = 0; c < 30; c++) {
                for (int d = 0; d < 30; d++) {
                    if (c / 6 == d / 6 && Math.abs(c - d) == 1 && w.free(c) && w.free(d)) {
                        World v = w.copy();
                        int f = v.show(a, c) + v.show(b, d);
                        byFuss.computeIfAbsent(f, x -> new TreeSet<>()).add(100 * c + d);
                    }
                }
            }
            if (byFuss.isEmpty()) return -1;
            return what == 0 ? byFuss.firstKey() : byFuss.firstEntry().getValue().first();
        }

        /** By trying swaps breadth first, among the cells that matter; by rings, if that would take long (SwapsTest tries those). */
        long swaps() {
            TreeMap<Integer, Soul> owners = new TreeMap<>();
            for (Soul s : w.souls) {
                if (s.cell != -1) owners.putIfAbsent(s.stub, s);
            }
            owners.values().removeIf(s -> s.cell == s.stub);
            if (owners.size() > 3) return swapsByRings(owners);
            List<Soul> moved = new ArrayList<>(owners.values());
            TreeSet<Integer> cells = new TreeSet<>();
            for (Soul s : moved) {
                cells.add(s.cell);
                cells.add(s.stub);
            }
            List<Integer> start = new ArrayList<>(), goal = new ArrayList<>();
            for (Soul s : moved) {
                start.add(s.cell);
                goal.add(s.stub);
            }
            Map<List<Integer>, Integer> far = new HashMap<>();
            ArrayDeque<List<Integer>> queue = new ArrayDeque<>();
            far.put(start, 0);
            queue.add(start);
            while (!queue.isEmpty()) {
                List<Integer> at = queue.remove();
                if (at.equals(goal)) return far.get(at);
                for (int c : cells) {
                    for (int d : cells.tailSet(c, false)) {
                        List<Integer> next = new ArrayList<>();
                        for (int x : at) next.add(x == c ? d : x == d ? c : x);
                        if (far.putIfAbsent(next, far.get(at) + 1) == null) queue.add(next);
                    }
                }
            }
            throw new IllegalStateException("no way home");
        }

        long swapsByRings(TreeMap<Integer, Soul> owners) {
            int swaps = 0;
            TreeSet<Integer> left = new TreeSet<>();
            Map<Integer, Integer> goal = new HashMap<>();
            for (Soul s : owners.values()) {
                goal.put(s.cell, s.stub);
                left.add(s.cell);
            }
            while (!left.isEmpty()) {
                // From a cell that nobody is to come to, if there is one: else only rings are left.
                int from = left.first();
                for (int c : left) {
                    if (!goal.containsValue(c) || !left.containsAll(comeTo(goal, c))) from = c;
                }
                boolean ring = false;
                int first = from;
                Integer c = from;
                while (c != null && left.remove(c)) {
                    swaps++;
                    c = goal.get(c);
                    ring = c != null && c == first;
                }
                if (ring) swaps--;
            }
            return swaps;
        }

        static List<Integer> comeTo(Map<Integer, Integer> goal, int c) {
            List<Integer> from = new ArrayList<>();
            goal.forEach((k, v) -> {
                if (v == c) from.add(k);
            });
            return from;
        }

        long answerGuessing(String name, int[] a) {
            switch (name) {
                case "seen": {
                    if (!soul(a[0]) || !in(a[1], 0, 99) || !in(a[2], 0, 40)) return bad();
                    return add(w.seen, 5, a);
                }
                case "note": {
                    if (!in(a[0], 0, 4) || !in(a[1], 0, 5) || !in(a[2], 0, 20)) return bad();
                    return add(w.notes, 6, a);
                }
                case "mark": {
                    if (!soul(a[0]) || !in(a[1], 0, 5) || !in(a[2], 0, 99) || !in(a[3], 0, 40)) return bad();
                    return add(w.marks, 6, a);
                }
                case "where": {
                    if (!soul(a[0]) || a[1] < -1) return refuse(0, -10);
                    List<Integer> cells = where(a[0]);
                    return a[1] == -1 ? cells.size() : a[1] < cells.size() ? cells.get(a[1]) : -5;
                }
                case "tell": {
                    if (!soul(a[0])) return bad();
                    List<Integer> cells = where(a[0]);
                    return parting(cells, 20, t -> t, (c, t) -> makes(w.souls.get(a[0]).kind, w.knees(c), t));
                }
                case "forget": {
                    if (!in(a[0], 0, 2)) return bad();
                    List<int[]> list = a[0] == 0 ? w.seen : a[0] == 1 ? w.notes : w.marks;
                    int n = list.size();
                    list.clear();
                    return n;
                }
                case "is": return in(a[0], 0, 4) ? bits(rowKinds(a[0])) : bad();
                case "look": {
                    if (!in(a[0], 0, 4)) return bad();
                    return parting(rowKinds(a[0]), 6, s -> s, (kind, s) -> sees(kind, s));
                }
                case "kinds": return soul(a[0]) ? bits(soulKinds(a[0])) : bad();
                case "ask": {
                    if (!soul(a[0])) return bad();
                    return parting(soulKinds(a[0]), 66, q -> q / 11 * 100 + q % 11,
                        (kind, q) -> makes(kind, q / 100, q % 100));
                }
                default: return answerRest(name, a);
            }
        }

        interface Guess {
            int by(int one, int question);
        }

        int parting(List<Integer> ones, int questions, IntUnaryOperator question, Guess guess) {
            int best = -1, fewest = Integer.MAX_VALUE;
            if (ones.isEmpty()) return -1;
            for (int q = 0; q < questions; q++) {
                Map<Integer, Integer> groups = new HashMap<>();
                int most = 0;
                for (int one : ones) most = Math.max(most, groups.merge(guess.by(one, question.applyAsInt(q)), 1, Integer::sum));
                if (most < fewest) {
                    fewest = most;
                    best = question.applyAsInt(q);
                }
            }
            return best;
        }

        long add(List<int[]> list, int limit, int[] a) {
            if (list.size() == limit) return refuse(2, -4);
            list.add(a.clone());
            return list.size();
        }

        static int bits(List<Integer> list) {
            int bits = 0;
            for (int x : list) bits |= 1 << x;
            return bits;
        }

        List<Integer> where(int i) {
            List<Integer> cells = new ArrayList<>();
            for (int c = 0; c < 30; c++) {
                int cell = c;
                if (w.free(c) && w.seen.stream().allMatch(s ->
                        s[0] != i || makes(w.souls.get(i).kind, w.knees(cell), s[1]) == s[2])) cells.add(c);
            }
            return cells;
        }

        List<Integer> rowKinds(int r) {
            List<Integer> list = new ArrayList<>();
            for (int kind = 0; kind < 6; kind++) {
                int k = kind;
                if (w.notes.stream().allMatch(n -> n[0] != r || sees(k, n[1]) == n[2])) list.add(kind);
            }
            return list;
        }

        List<Integer> soulKinds(int i) {
            List<Integer> list = new ArrayList<>();
            for (int kind = 0; kind < 6; kind++) {
                int k = kind;
                if (w.marks.stream().allMatch(m -> m[0] != i || makes(k, m[1], m[2]) == m[3])) list.add(kind);
            }
            return list;
        }

        long answerRest(String name, int[] a) {
            switch (name) {
                case "whispers": {
                    if (!soul(a[0]) || !soul(a[1]) || a[0] == a[1] || !in(a[2], 0, 29)) return bad();
                    return whispers(a[0], a[1], a[2]);
                }
                case "wet": {
                    if (!soul(a[0]) || !in(a[1], 0, 10)) return bad();
                    if (!out(a[0])) return no();
                    int stub = w.souls.get(a[0]).stub;
                    int tenths = 0;
                    for (int n = 0; n < 10; n++) tenths += w.makes(a[0], n < a[1] && stub < 24 ? stub + 6 : stub);
                    above = tenths;
                    below = 10;
                    for (int p : new int[] {2, 5}) {
                        while (above % p == 0 && below % p == 0) {
                            above /= p;
                            below /= p;
                        }
                    }
                    return 1;
                }
                case "evenings": {
                    if (!in(a[0], 0, 999999) || !in(a[1], 0, 60)) return bad();
                    return evenings(a[0], a[1]);
                }
                case "part": return in(a[0], 0, 1) ? (a[0] == 0 ? above : below) : bad();
                case "image": {
                    if (!in(a[0], 0, 1)) return bad();
                    images[a[0]] = w.copy();
                    return 1;
                }
                case "from": {
                    if (!in(a[0], 0, 1)) return bad();
                    if (images[a[0]] == null) return no();
                    w = images[a[0]].copy();
                    return 1;
                }
                case "status": return in(a[0], 0, 2) ? status[a[0]] : refuse(0, -1);
                case "count": return in(a[0], 0, 9) ? count(a[0]) : bad();
                case "digest": return digest();
                default: throw new IllegalStateException(name);
            }
        }

        /** What a, b get where they do x, y. */
        int[] gets(int a, int b, int c, int x, int y) {
            int sees = w.sees(c);
            if (x == 0 && y == 0) return new int[] {sees / 2, sees / 2};
            if (x == 1 && y == 0) return new int[] {sees, 2};
            if (x == 0) return new int[] {2, sees};
            return new int[] {-w.makes(a, c), -w.makes(b, c)};
        }

        int whispers(int a, int b, int c) {
            int bits = 0;
            for (int pair = 0; pair < 4; pair++) {
                int x = pair & 1, y = pair >> 1;
                if (gets(a, b, c, 1 - x, y)[0] <= gets(a, b, c, x, y)[0]
                        && gets(a, b, c, x, 1 - y)[1] <= gets(a, b, c, x, y)[1]) bits |= 1 << pair;
            }
            return bits;
        }

        int evenings(int seed, int n) {
            World v = w.copy();
            int before = v.fuss;
            java.math.BigInteger x = java.math.BigInteger.valueOf(seed);
            for (int k = 0; k < n; k++) {
                x = x.multiply(java.math.BigInteger.valueOf(1103515245)).add(java.math.BigInteger.valueOf(12345))
                    .mod(java.math.BigInteger.valueOf(2147483648L));
                int i = (int) (x.longValue() / 65536 % 7), c = (int) (x.longValue() / 1048576 % 30);
                if (i < v.souls.size() && v.souls.get(i).cell == -1 && v.free(c)) v.show(i, c);
                else if (i < v.souls.size() && v.souls.get(i).cell != -1) v.send(i);
                else v.minute++;
            }
            return v.fuss - before;
        }

        int count(int what) {
            int sit = 0;
            for (Soul s : w.souls) sit += s.cell == -1 ? 0 : 1;
            return new int[] {w.souls.size(), sit, w.coats.size(), w.minute, w.fuss, w.seen.size(), w.notes.size(),
                w.marks.size(), w.past.size(), text.length()}[what];
        }

        long digest() {
            List<Long> all = new ArrayList<>();
            for (int what = 0; what < 10; what++) all.add((long) count(what));
            for (int kind : w.rows) all.add((long) kind);
            all.add((long) bits(new ArrayList<>(w.coats)));
            for (Soul s : w.souls) all.addAll(List.of((long) s.kind, (long) s.stub, (long) s.cell));
            for (List<int[]> list : List.of(w.seen, w.notes, w.marks)) {
                for (int[] one : list) {
                    for (int v : one) all.add((long) v);
                }
            }
            all.add(above);
            all.add(below);
            long h = 1699;
            for (long v : all) h = 31 * h + v;
            return h;
        }

        private static final Pattern TOKEN = Pattern.compile(" *([a-z]+|[0-9]+|;|[^ ])");

        long read() {
            List<String> tokens = new ArrayList<>();
            List<Integer> places = new ArrayList<>();
            Matcher m = TOKEN.matcher(text.toString().replace('\n', '!').replace('\r', '!'));
            while (m.find()) {
                tokens.add(m.group(1));
                places.add(m.start(1));
            }
            World v = new World();
            int items = 0;
            for (int n = 0; n < tokens.size(); items++) {
                int wrongAt = item(v, tokens, n, items == 0);
                if (wrongAt >= 0) return -10 - (wrongAt < places.size() ? places.get(wrongAt) : text.length());
                n = -wrongAt - 1;
            }
            if (items == 0) return -10 - text.length();
            w = v;
            return items;
        }

        /** The number of the token that can't stand (too many: the text ends), or -1 less the next item's. */
        int item(World v, List<String> tokens, int n, boolean first) {
            String word = tokens.get(n);
            if (first != word.equals("hall")) return n;
            int numbers;
            switch (word) {
                case "hall": numbers = 5; break;
                case "soul": numbers = 2; break;
                case "sit": numbers = 2; break;
                case "coat": case "out": case "minutes": numbers = 1; break;
                default: return n;
            }
            if (word.equals("soul") && v.souls.size() == 7) return n;
            int[] x = new int[numbers];
            for (int k = 0; k < numbers; k++) {
                if (n + 1 + k >= tokens.size()) return tokens.size();
                String t = tokens.get(n + 1 + k);
                if (!t.matches("[0-9]{1,2}")) return n + 1 + k;
                x[k] = Integer.parseInt(t);
                if (!stands(v, word, k, x[k])) return n + 1 + k;
            }
            if (n + 1 + numbers >= tokens.size()) return tokens.size();
            if (!tokens.get(n + 1 + numbers).equals(";")) return n + 1 + numbers;
            switch (word) {
                case "hall": v.rows = x; break;
                case "soul": come(v, x[0], x[1]); break;
                case "coat": v.coats.add(x[0]); break;
                case "sit": v.show(x[0], x[1]); break;
                case "out": v.send(x[0]); break;
                default: v.minute += x[0];
            }
            return -(n + 2 + numbers) - 1;
        }

        static boolean stands(World v, String word, int k, int x) {
            switch (word) {
                case "hall": return x <= 5;
                case "soul": return k == 0 ? x <= 5 : x <= 29;
                case "coat": return x <= 29 && v.free(x);
                case "sit": return k == 0 ? x < v.souls.size() && v.souls.get(x).cell == -1 : x <= 29 && v.free(x);
                case "out": return x < v.souls.size() && v.souls.get(x).cell != -1;
                default: return x >= 1 && x <= 99;
            }
        }
    }

    /** Which call comes next; a run's mood says what is asked most. */
    private static final class Script {
        private final Random random;
        private final int mood;
        private final ArrayDeque<Call> ahead = new ArrayDeque<>();

        Script(Random random, int mood) {
            this.random = random;
            this.mood = mood;
        }

        int upTo(int most) {
            int r = random.nextInt(60);
            if (r == 0) return -1 - random.nextInt(2);
            if (r == 1) return most + 1 + random.nextInt(2);
            if (r == 2 && random.nextInt(4) == 0) return random.nextBoolean() ? Integer.MAX_VALUE : Integer.MIN_VALUE;
            return random.nextInt(most + 1);
        }

        int soul(Model m) {
            return m.w.souls.isEmpty() ? upTo(6) : random.nextInt(20) == 0 ? upTo(6) : random.nextInt(m.w.souls.size());
        }

        int cell(Model m) {
            if (!m.w.souls.isEmpty() && random.nextInt(3) == 0) return m.w.souls.get(random.nextInt(m.w.souls.size())).stub;
            return random.nextInt(3) == 0 ? upTo(29) : random.nextInt(mood == 2 ? 7 : 12);
        }

        Call next(Model m) {
            if (!ahead.isEmpty()) return ahead.remove();
            if (random.nextInt(12) == 0) return new Call("digest");
            if (mood == 3 && random.nextInt(4) != 0 && m.w.minute < 9999 && random.nextInt(3) != 0) return new Call("minutes", 99);
            if (mood == 4 && random.nextInt(8) == 0) writeText();
            if (mood == 1 && random.nextInt(2) == 0) return new Call("coat", upTo(29), random.nextInt(4) == 0 ? 0 : 1);
            if (m.w.souls.size() < 7 && random.nextInt(mood == 3 ? 60 : 12) == 0) {
                return new Call("soul", upTo(5), random.nextInt(2) == 0 ? upTo(29) : random.nextInt(8));
            }
            if (!ahead.isEmpty()) return ahead.remove();
            return random.nextInt(3) == 0 ? change(m) : ask(m);
        }

        Call change(Model m) {
            switch (random.nextInt(40)) {
                case 0: return random.nextInt(6) == 0 ? new Call("hall") : new Call("wrong");
                case 1: case 2: return new Call("row", upTo(4), upTo(5));
                case 3: return new Call("soul", upTo(5), upTo(29));
                case 4: return new Call("type", random.nextInt(3) == 0 ? upTo(127) : 32);
                case 5: return new Call("image", upTo(1));
                case 6: return new Call("from", upTo(1));
                case 7: case 8: return new Call("coat", cell(m), upTo(1));
                case 9: case 10: case 11: return new Call("minutes", random.nextInt(3) == 0 ? upTo(99) : upTo(3));
                case 12: case 13: case 14: case 15: return new Call("undo");
                case 16: case 17: case 18: case 19: return new Call("sends", soul(m));
                case 20: case 21: case 22: case 23: case 24: return new Call("moves", soul(m), cell(m));
                default: return new Call("shows", soul(m), cell(m));
            }
        }

        Call ask(Model m) {
            switch (random.nextInt(28)) {
                case 0: return new Call("of", soul(m), upTo(2));
                case 1: return new Call("about", cell(m), upTo(4));
                case 2: return new Call("makes", soul(m), cell(m));
                case 3: case 4: case 5: return new Call("order", random.nextInt(3) == 0 ? -1 : upTo(6));
                case 6: case 7: return new Call("best", soul(m), upTo(1));
                case 8: case 9: return new Call("beside", soul(m), soul(m), upTo(1));
                case 10: return new Call("wrong");
                case 11: return new Call("swaps");
                case 12: return likelySeen(m);
                case 13: return new Call("where", soul(m), random.nextInt(3) == 0 ? -1 : upTo(29));
                case 14: return new Call("tell", soul(m));
                case 15: return likelyNote();
                case 16: return likelyMark(m);
                case 17: return random.nextInt(3) == 0 ? new Call("forget", upTo(2)) : new Call("swaps");
                case 18: return new Call("is", upTo(4));
                case 19: return new Call("look", upTo(4));
                case 20: return new Call("kinds", soul(m));
                case 21: return new Call("ask", soul(m));
                case 22: return new Call("whispers", soul(m), soul(m), cell(m));
                case 23: return new Call("wet", soul(m), upTo(10));
                case 24: return new Call("evenings", random.nextInt(4) == 0 ? upTo(999999) : random.nextInt(1000000), upTo(60));
                case 25: return new Call("part", upTo(1));
                case 26: return new Call("status", upTo(2));
                default: return new Call("count", upTo(9));
            }
        }

        Call likelySeen(Model m) {
            int i = soul(m), t = random.nextInt(2) == 0 ? upTo(99) : random.nextInt(12);
            boolean there = i >= 0 && i < m.w.souls.size();
            int x = there && random.nextInt(4) != 0 ? Model.makes(m.w.souls.get(i).kind, random.nextInt(4), t) : upTo(40);
            return new Call("seen", i, t, x);
        }

        Call likelyNote() {
            int s = upTo(5);
            int x = s >= 0 && s < 6 && random.nextInt(4) != 0 ? Model.sees(random.nextInt(6), s) : upTo(20);
            return new Call("note", upTo(4), s, x);
        }

        Call likelyMark(Model m) {
            int k = upTo(5), t = random.nextInt(2) == 0 ? upTo(99) : random.nextInt(12);
            int x = k >= 0 && k < 6 && random.nextInt(4) != 0 ? Model.makes(random.nextInt(6), k, t) : upTo(40);
            return new Call("mark", soul(m), k, t, x);
        }

        /** A text that is mostly right; then, by chance, a byte of it is put, taken or changed. */
        void writeText() {
            StringBuilder s = new StringBuilder("hall");
            for (int r = 0; r < 5; r++) s.append(' ').append(random.nextInt(6));
            s.append(';');
            int souls = 0;
            int items = random.nextInt(14);
            for (int n = 0; n < items; n++) {
                switch (souls == 0 ? 0 : random.nextInt(6)) {
                    case 0: s.append("soul ").append(random.nextInt(6)).append(' ').append(random.nextInt(30)); souls++; break;
                    case 1: s.append("coat ").append(random.nextInt(31)); break;
                    case 2: case 3: s.append("sit ").append(random.nextInt(souls)).append(' ').append(random.nextInt(random.nextBoolean() ? 8 : 30)); break;
                    case 4: s.append("out ").append(random.nextInt(souls)); break;
                    default: s.append("minutes").append(random.nextBoolean() ? " " : "").append(1 + random.nextInt(99));
                }
                s.append(random.nextInt(5) == 0 ? " ; " : ";");
            }
            String odd = " 0129;;azhsoulit-A\t\n{`/:";
            for (int n = random.nextInt(4) == 0 ? 1 + random.nextInt(2) : 0; n > 0; n--) {
                int at = random.nextInt(s.length());
                char c = odd.charAt(random.nextInt(odd.length()));
                switch (random.nextInt(4)) {
                    case 0: s.insert(at, c); break;
                    case 1: s.deleteCharAt(at); break;
                    case 2: s.setCharAt(at, c); break;
                    default: s.setLength(at + 1);
                }
            }
            ahead.add(new Call("clear"));
            for (int n = 0; n < Math.min(s.length(), 151); n++) ahead.add(new Call("type", s.charAt(n)));
            ahead.add(new Call("read"));
            ahead.add(new Call("digest"));
        }
    }
}
