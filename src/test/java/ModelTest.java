import java.util.ArrayList;
import java.util.List;
import java.util.Random;
import java.util.regex.Matcher;
import java.util.regex.Pattern;

/** Random runs of calls, each answer held against a slow and plain model of the document. */
public final class ModelTest {
    private static final int RUNS = 400;
    /** Nothing is promised of an object behind its 512th call; one round takes up to 155: a text typed, a call, a digest. */
    private static final int CALLS = 512 - 155;

    public static void main(String[] args) {
        for (int run = 0; run < RUNS; run++) {
            if (!runAgrees(run)) {
                System.exit(1);
            }
        }
        System.out.println("the model agrees in " + RUNS + " runs");
    }

    private static boolean runAgrees(int seed) {
        Random random = new Random(seed);
        IronStairs x = new IronStairs();
        Model model = new Model();
        List<String> told = new ArrayList<>();
        boolean wild = seed % 5 == 0;
        for (int calls = 0; calls < CALLS; calls += 2) {
            String call = pick(random, model);
            int[] a = {argument(random, wild), argument(random, wild), argument(random, wild), argument(random, wild)};
            if (!wild || random.nextBoolean()) shape(call, a, random, model);
            if (call.equals("read") && random.nextInt(10) > 0) {
                String text = Texts.make(random);
                typeText(x, model, text);
                told.add("clear, type of each of '" + text + "'");
                calls += 1 + text.length();
            }
            long want = model.answer(call, a);
            long got = answer(x, call, a);
            told.add(call + " of " + a[0] + ", " + a[1] + ", " + a[2] + ", " + a[3] + " answered " + got);
            if (got != want || x.digest() != model.digest()) {
                for (String t : told) System.out.println(t);
                System.out.println("run " + seed + ": due is " + want + ", the digest " + model.digest());
                return false;
            }
        }
        return true;
    }

    /** A text is typed whole, so that some are read whole. */
    private static void typeText(IronStairs x, Model model, String text) {
        x.clear();
        model.clear();
        for (int i = 0; i < text.length(); i++) {
            x.type(text.charAt(i));
            model.type(text.charAt(i));
        }
    }

    /** Mostly a call for which enough is there. */
    private static String pick(Random random, Model model) {
        if (random.nextInt(2) == 0) {
            if (model.goers.size() < 2) return "goer";
            if (model.windows.isEmpty()) return "window";
            if (model.ladders.size() < 2) return "ladder";
        }
        String call = Model.NAMES[random.nextInt(Model.NAMES.length)];
        boolean ends = List.of("back", "read", "from", "ladder", "goer", "window").contains(call);
        String[] moving = {"turns", "draws", "undo", "meet", "waits", "shy"};
        return ends && random.nextInt(4) > 0 ? moving[random.nextInt(moving.length)] : call;
    }

    private static int argument(Random random, boolean wild) {
        if (wild && random.nextInt(12) == 0) {
            int[] odd = {Integer.MIN_VALUE, Integer.MAX_VALUE, -1, -2, 1 << 30, 255, -100000};
            return odd[random.nextInt(odd.length)];
        }
        return random.nextInt(random.nextInt(4) == 0 ? 25 : 6);
    }

    /** Makes most arguments such as the call asks for. */
    private static void shape(String call, int[] a, Random random, Model model) {
        switch (call) {
            case "ladder": a[0] = random.nextInt(17); break;
            case "goer": {
                int cells = random.nextBoolean() ? 20 : 8;
                a[1] = random.nextInt(cells);
                a[2] = random.nextInt(cells);
                break;
            }
            case "turns": case "is": case "look": a[0] = one(random, model.goers); break;
            case "draws": a[0] = one(random, model.ladders); break;
            case "rungs": a[0] = one(random, model.ladders); a[1] = random.nextInt(3); break;
            case "about": a[0] = one(random, model.windows); a[1] = random.nextInt(4); break;
            case "kinds": case "ask": a[0] = one(random, model.windows); break;
            case "status": case "part": a[0] = random.nextInt(4); break;
            case "window": a[1] = random.nextInt(20); break;
            case "minutes": a[0] = 1 + random.nextInt(random.nextInt(3) == 0 ? 61 : 4); break;
            case "of": a[0] = one(random, model.goers); a[1] = random.nextInt(8); break;
            case "far": a[0] = random.nextInt(21); a[1] = random.nextInt(20); break;
            case "where": a[0] = one(random, model.goers); a[1] = random.nextInt(62); break;
            case "meet": two(a, random, model); break;
            case "waits": two(a, random, model); a[2] = random.nextInt(2); break;
            case "down": case "cut": a[0] = random.nextInt(2); break;
            case "doors": a[0] = random.nextInt(7) - 1; break;
            case "sound": fitSound(a, random, model); break;
            case "note": fitNote(a, random, model); break;
            case "mark": fitMark(a, random, model); break;
            case "shy": two(a, random, model); a[2] = random.nextInt(2) == 0 ? -1 : random.nextInt(12); break;
            case "odds": a[0] = random.nextInt(20); a[1] = random.nextInt(20); a[2] = random.nextInt(11); break;
            case "nights": a[0] = random.nextInt(1000000); a[1] = random.nextInt(61); break;
            case "image": case "from": a[0] = random.nextInt(2); break;
            case "forget": a[0] = random.nextInt(4); break;
            default: break;
        }
    }

    /** One that is there, or now and then the first that is not. */
    private static int one(Random random, List<int[]> rows) {
        return rows.isEmpty() || random.nextInt(20) == 0 ? rows.size() : random.nextInt(rows.size());
    }

    private static void two(int[] a, Random random, Model model) {
        a[0] = one(random, model.goers);
        a[1] = one(random, model.goers);
        if (a[0] == a[1] && random.nextInt(4) > 0) a[1] = a[0] > 0 ? a[0] - 1 : 1;
    }

    /** Mostly a sound that a goer makes. */
    private static void fitSound(int[] a, Random random, Model model) {
        a[0] = one(random, model.windows);
        a[1] = random.nextInt(random.nextInt(2) == 0 ? 31 : 4);
        a[2] = 1 + random.nextInt(6);
        if (model.goers.isEmpty() || random.nextInt(3) == 0) return;
        int[] g = model.goers.get(random.nextInt(model.goers.size()));
        a[2] = Math.max(1, Model.loud(g[0], model.cellAfter(g, a[1]) / 4, model.minute + a[1]));
    }

    /** Mostly a note that some kind makes true. */
    private static void fitNote(int[] a, Random random, Model model) {
        a[0] = one(random, model.goers);
        a[1] = random.nextInt(5);
        a[2] = random.nextInt(100);
        a[3] = random.nextInt(4) == 0 ? random.nextInt(21) : Model.loud(random.nextInt(6), a[1], a[2]);
    }

    private static void fitMark(int[] a, Random random, Model model) {
        a[0] = one(random, model.windows);
        a[1] = random.nextInt(random.nextInt(2) == 0 ? 21 : 4);
        a[2] = random.nextInt(8);
        a[3] = random.nextInt(5) == 0 ? random.nextInt(2) : Model.hear(random.nextInt(6), a[1], a[2]) >= 1 ? 1 : 0;
    }

    private static long answer(IronStairs x, String call, int[] a) {
        switch (call) {
            case "back": return x.back();
            case "ladder": return x.ladder(a[0]);
            case "goer": return x.goer(a[0], a[1], a[2]);
            case "window": return x.window(a[0], a[1]);
            case "type": return x.type(a[0]);
            case "clear": return x.clear();
            case "read": return x.read();
            case "minutes": return x.minutes(a[0]);
            case "turns": return x.turns(a[0]);
            case "draws": return x.draws(a[0]);
            case "undo": return x.undo();
            case "of": return x.of(a[0], a[1]);
            case "about": return x.about(a[0], a[1]);
            case "rungs": return x.rungs(a[0], a[1]);
            case "far": return x.far(a[0], a[1]);
            case "where": return x.where(a[0], a[1]);
            case "meet": return x.meet(a[0], a[1]);
            case "waits": return x.waits(a[0], a[1], a[2]);
            case "down": return x.down(a[0]);
            case "cut": return x.cut(a[0]);
            case "doors": return x.doors(a[0]);
            case "sound": return x.sound(a[0], a[1], a[2]);
            case "who": return x.who();
            case "note": return x.note(a[0], a[1], a[2], a[3]);
            case "mark": return x.mark(a[0], a[1], a[2], a[3]);
            case "forget": return x.forget(a[0]);
            case "is": return x.is(a[0]);
            case "look": return x.look(a[0]);
            case "kinds": return x.kinds(a[0]);
            case "ask": return x.ask(a[0]);
            case "shy": return x.shy(a[0], a[1], a[2]);
            case "odds": return x.odds(a[0], a[1], a[2]);
            case "nights": return x.nights(a[0], a[1]);
            case "part": return x.part(a[0]);
            case "image": return x.image(a[0]);
            case "from": return x.from(a[0]);
            case "status": return x.status(a[0]);
            case "count": return x.count(a[0]);
            default: return x.digest();
        }
    }

    /** Texts, most of them right or nearly so. */
    private static final class Texts {
        static String make(Random random) {
            StringBuilder text = new StringBuilder(blanks(random) + "back" + blanks(random) + ";");
            int items = random.nextInt(14);
            for (int i = 0; i < items; i++) text.append(item(random));
            int faults = Math.max(0, random.nextInt(5) - 2);
            for (int i = 0; i < faults; i++) spoil(text, random);
            return text.length() > 150 ? text.substring(0, 150) : text.toString();
        }

        private static String blanks(Random random) {
            return random.nextInt(4) == 0 ? " ".repeat(1 + random.nextInt(2)) : "";
        }

        private static String item(Random random) {
            String[] words = {"ladder", "goer", "window", "turn", "draw", "minutes"};
            int[][] limits = {{16}, {6, 20, 20}, {6, 20}, {3}, {3}, {100}};
            int which = random.nextInt(words.length + 3);
            if (which >= words.length) which = which == words.length ? 0 : 1;
            StringBuilder item = new StringBuilder(blanks(random) + words[which] + blanks(random));
            for (int k = 0; k < limits[which].length; k++) {
                if (k > 0) item.append(' ');
                int number = random.nextInt(limits[which][k] + (random.nextInt(20) == 0 ? 1 : 0));
                if (number < 10 && random.nextInt(5) == 0) item.append('0');
                item.append(number).append(blanks(random));
            }
            return item + ";" + blanks(random);
        }

        private static void spoil(StringBuilder text, Random random) {
            int place = random.nextInt(text.length());
            String signs = " ;;019abdgklmrtw-A\t~";
            switch (random.nextInt(4)) {
                case 0: text.deleteCharAt(place); break;
                case 1: text.insert(place, signs.charAt(random.nextInt(signs.length()))); break;
                case 2: text.setCharAt(place, signs.charAt(random.nextInt(signs.length()))); break;
                default: text.setLength(place); break;
            }
            if (text.length() == 0) text.append(' ');
        }
    }

    /** The document once more, as plainly as can be. */
    private static final class Model {
        static final String[] NAMES = {"back", "ladder", "goer", "window", "type", "clear", "read", "minutes",
            "turns", "draws", "undo", "of", "about", "rungs", "far", "where", "meet", "waits", "down", "cut", "doors",
            "sound", "who", "note", "mark", "forget", "is", "look", "kinds", "ask", "shy", "odds", "nights", "part",
            "image", "from", "status", "count", "digest"};
        List<int[]> ladders = new ArrayList<>();
        List<int[]> goers = new ArrayList<>();
        List<int[]> windows = new ArrayList<>();
        List<int[]> sounds = new ArrayList<>();
        List<int[]> notes = new ArrayList<>();
        List<int[]> marks = new ArrayList<>();
        List<Model> past = new ArrayList<>();
        int minute;
        final Model[] images = new Model[2];
        String text = "";
        long above = 0;
        long below = 1;
        final int[] refused = new int[3];

        private static List<int[]> copy(List<int[]> rows) {
            List<int[]> copy = new ArrayList<>();
            for (int[] r : rows) copy.add(r.clone());
            return copy;
        }

        /** All but images, the text, the fraction, status. */
        void take(Model m) {
            ladders = copy(m.ladders);
            goers = copy(m.goers);
            windows = copy(m.windows);
            sounds = copy(m.sounds);
            notes = copy(m.notes);
            marks = copy(m.marks);
            past = new ArrayList<>(m.past);
            minute = m.minute;
        }

        Model twin() {
            Model m = new Model();
            m.take(this);
            return m;
        }

        long answer(String name, int[] a) {
            long answer = answerOf(name, a);
            if (name.equals("digest") || name.equals("read")) return answer;
            boolean other = name.equals("doors") || name.equals("shy") ? answer == -10 : name.equals("status") && answer == -1;
            if (answer == -2 || other) refused[0]++;
            if (answer == -3) refused[1]++;
            if (answer == -4) refused[2]++;
            return answer;
        }

        private static boolean in(int n, int below) {
            return n >= 0 && n < below;
        }

        private boolean two(int i, int j) {
            return i != j && in(i, goers.size()) && in(j, goers.size());
        }

        private long answerOf(String name, int[] a) {
            switch (name) {
                case "back": {
                    int n = goers.size();
                    take(new Model());
                    return n;
                }
                case "ladder": return ladder(a[0]);
                case "goer":
                    if (!in(a[0], 6) || !in(a[1], 20) || !in(a[2], 20)) return -2;
                    if (goers.size() == 6) return -4;
                    goers.add(new int[] {a[0], a[1], a[2], a[1], 0});
                    past.clear();
                    return goers.size() - 1;
                case "window":
                    if (!in(a[0], 6) || !in(a[1], 20)) return -2;
                    if (windows.size() == 4) return -4;
                    windows.add(new int[] {a[0], a[1]});
                    past.clear();
                    return windows.size() - 1;
                case "type":
                    if (!in(a[0], 128)) return -2;
                    return text.length() == 150 ? -4 : type((char) a[0]);
                case "clear": return clear();
                case "read": return read();
                case "minutes":
                    if (a[0] < 1 || a[0] > 60) return -2;
                    remember();
                    return go(Math.min(a[0], 9999 - minute));
                case "turns":
                    if (!in(a[0], goers.size())) return -2;
                    remember();
                    return goers.get(a[0])[4] ^= 1;
                case "draws":
                    if (!in(a[0], ladders.size())) return -2;
                    remember();
                    return ladders.get(a[0])[1] ^= 1;
                case "undo": return undo();
                case "of": return of(a[0], a[1]);
                case "about":
                    if (!in(a[0], windows.size()) || !in(a[1], 3)) return -2;
                    return a[1] < 2 ? windows.get(a[0])[a[1]] : hears(a[0]);
                case "rungs": return in(a[0], ladders.size()) && in(a[1], 2) ? ladders.get(a[0])[a[1]] : -2;
                case "far": return in(a[0], 20) && in(a[1], 20) ? far(a[0], a[1]) : -2;
                case "where":
                    return in(a[0], goers.size()) && in(a[1], 61) ? cellAfter(goers.get(a[0]), a[1]) : -2;
                case "meet": return two(a[0], a[1]) ? meeting(a[0], a[1], 0, 0, 60) : -2;
                default: return answerOfMore(name, a);
            }
        }

        private long answerOfMore(String name, int[] a) {
            switch (name) {
                case "waits":
                    if (!two(a[0], a[1]) || !in(a[2], 2)) return -2;
                    for (int w = 0; w <= 20; w++) {
                        if (meeting(a[0], a[1], w, 0, 60) >= 0 == (a[2] == 1)) return w;
                    }
                    return -1;
                case "down": return in(a[0], 2) ? down(a[0]) : -2;
                case "cut": return in(a[0], 2) ? cut(a[0]) : -2;
                case "doors": return doors(a[0]);
                case "sound":
                    if (!in(a[0], windows.size()) || !in(a[1], 31) || !in(a[2] - 1, 20)) return -2;
                    return sounds.size() == 5 ? -4 : add(sounds, a[0], a[1], a[2]);
                case "who": return who();
                case "note":
                    if (!in(a[0], goers.size()) || !in(a[1], 5) || !in(a[2], 100) || !in(a[3], 21)) return -2;
                    return notes.size() == 6 ? -4 : add(notes, a[0], a[1], a[2], a[3]);
                case "mark":
                    if (!in(a[0], windows.size()) || !in(a[1], 21) || !in(a[2], 8) || !in(a[3], 2)) return -2;
                    return marks.size() == 6 ? -4 : add(marks, a[0], a[1], a[2], a[3]);
                case "forget": {
                    if (!in(a[0], 3)) return -2;
                    List<int[]> rows = a[0] == 0 ? sounds : a[0] == 1 ? notes : marks;
                    int n = rows.size();
                    rows.clear();
                    return n;
                }
                case "is": return in(a[0], goers.size()) ? bits(goerKinds(a[0])) : -2;
                case "look": return in(a[0], goers.size()) ? look(goerKinds(a[0])) : -2;
                case "kinds": return in(a[0], windows.size()) ? bits(windowKinds(a[0])) : -2;
                case "ask": return in(a[0], windows.size()) ? ask(windowKinds(a[0])) : -2;
                case "shy": return two(a[0], a[1]) && a[2] >= -1 ? shy(a[0], a[1], a[2]) : -10;
                case "odds": return in(a[0], 20) && in(a[1], 20) && in(a[2], 11) ? odds(a[0], a[1], a[2]) : -2;
                case "nights": return in(a[0], 1000000) && in(a[1], 61) ? nights(a[0], a[1]) : -2;
                case "part": return in(a[0], 2) ? (a[0] == 0 ? above : below) : -2;
                case "image":
                    if (!in(a[0], 2)) return -2;
                    images[a[0]] = twin();
                    return 1;
                case "from":
                    if (!in(a[0], 2)) return -2;
                    if (images[a[0]] == null) return -3;
                    take(images[a[0]]);
                    return 1;
                case "status": return in(a[0], 3) ? refused[a[0]] : -1;
                case "count": return in(a[0], 10) ? count(a[0]) : -2;
                default: return digest();
            }
        }

        private static int add(List<int[]> rows, int... row) {
            rows.add(row);
            return rows.size();
        }

        private int ladder(int c) {
            if (!in(c, 16)) return -2;
            for (int[] l : ladders) if (l[0] == c) return -2;
            if (ladders.size() == 6) return -4;
            ladders.add(new int[] {c, 1});
            past.clear();
            return ladders.size() - 1;
        }

        int type(char c) {
            text += c;
            return text.length();
        }

        int clear() {
            int n = text.length();
            text = "";
            return n;
        }

        private void remember() {
            Model m = twin();
            past.add(m);
            if (past.size() > 8) past.remove(0);
        }

        private int undo() {
            if (past.isEmpty()) return -3;
            Model m = past.remove(past.size() - 1);
            ladders = copy(m.ladders);
            goers = copy(m.goers);
            minute = m.minute;
            return minute;
        }

        /** Far by the number of cells reached in one more step, until no more are. */
        private int far(int a, int b) {
            boolean[] reached = new boolean[20];
            reached[a] = true;
            for (int n = 0; n <= 20; n++) {
                if (reached[b]) return n;
                boolean[] more = reached.clone();
                for (int c = 0; c < 20; c++) {
                    for (int d = 0; d < 20; d++) more[d] |= reached[c] && joined(c, d);
                }
                reached = more;
            }
            return -1;
        }

        private boolean joined(int c, int d) {
            if (c / 4 == d / 4) return Math.abs(c - d) == 1;
            for (int[] l : ladders) {
                if (l[1] == 1 && l[0] == Math.min(c, d) && l[0] + 4 == Math.max(c, d)) return true;
            }
            return false;
        }

        private static int goal(int[] g) {
            return g[4] == 1 ? g[1] : g[2];
        }

        private int step(int[] g, int at) {
            int left = far(at, goal(g));
            if (left <= 0) return at;
            for (int c = 0; c < 20; c++) if (joined(at, c) && far(c, goal(g)) == left - 1) return c;
            return at;
        }

        int cellAfter(int[] g, int m) {
            int at = g[3];
            for (int t = 0; t < m; t++) {
                int next = step(g, at);
                if (next == at) break;
                at = next;
            }
            return at;
        }

        private int go(int n) {
            int steps = 0;
            for (int m = 0; m < n; m++) {
                for (int[] g : goers) {
                    int next = step(g, g[3]);
                    if (next != g[3]) steps++;
                    g[3] = next;
                }
                minute++;
            }
            return steps;
        }

        static int loud(int kind, int f, int m) {
            int slipper = 1 + f / 2;
            int boot = 2 + slipper;
            int[] even = {slipper, boot, 0, f == 0 ? 2 * boot : boot, slipper / 2, boot};
            int[] odd = {slipper, boot, slipper, f == 0 ? 2 * boot : boot, slipper / 2, boot - 1};
            return m % 2 == 0 ? even[kind] : odd[kind];
        }

        static int hear(int kind, int x, int d) {
            int plain = x - d;
            int light = x >= 1 ? plain + 2 : plain;
            int deaf = plain > 0 ? plain / 2 : plain;
            return new int[] {plain, light, deaf, d < 2 ? 1 : light, light + x, Math.min(deaf, 2)}[kind];
        }

        private boolean heard(int w, int x, int c) {
            int v = windows.get(w)[1];
            return hear(windows.get(w)[0], x, Math.abs(v / 4 - c / 4) + Math.abs(v % 4 - c % 4)) >= 1;
        }

        private int of(int i, int what) {
            if (!in(i, goers.size()) || !in(what, 7)) return -2;
            int[] g = goers.get(i);
            if (what < 5) return g[what];
            int next = step(g, g[3]);
            if (what == 5) return next;
            return next == g[3] ? 0 : loud(g[0], g[3] / 4, minute);
        }

        private int hears(int w) {
            int bits = 0;
            for (int i = 0; i < goers.size(); i++) {
                int[] g = goers.get(i);
                if (step(g, g[3]) != g[3] && heard(w, loud(g[0], g[3] / 4, minute), g[3])) bits += 1 << i;
            }
            return bits;
        }

        private int meeting(int i, int j, int stayI, int stayJ, int last) {
            List<Integer> a = way(goers.get(i), stayI, last);
            List<Integer> b = way(goers.get(j), stayJ, last);
            for (int t = 0; t <= last; t++) if (a.get(t).equals(b.get(t))) return t;
            return -1;
        }

        private List<Integer> way(int[] g, int stay, int last) {
            List<Integer> way = new ArrayList<>();
            int at = g[3];
            for (int t = 0; t <= last; t++) {
                way.add(at);
                if (t >= stay && (t == stay || at != way.get(t - 1))) at = step(g, at);
            }
            return way;
        }

        private int toGround(int c) {
            int best = -1;
            for (int g = 0; g < 4; g++) {
                int n = far(c, g);
                if (n >= 0 && (best < 0 || n < best)) best = n;
            }
            return best;
        }

        private int down(int what) {
            int most = 0;
            int without = 0;
            for (int i = 0; i < goers.size(); i++) {
                int n = toGround(goers.get(i)[3]);
                if (n < 0) without += 1 << i;
                most = Math.max(most, n);
            }
            return what == 0 ? most : without;
        }

        private int cut(int what) {
            int[] best = {-1, -1};
            for (int k = 0; k < ladders.size(); k++) {
                if (ladders.get(k)[1] == 0) continue;
                ladders.get(k)[1] = 0;
                int n = Integer.bitCount(down(1));
                ladders.get(k)[1] = 1;
                if (n > best[1]) best = new int[] {k, n};
            }
            return best[what];
        }

        private int doors(int i) {
            if (i != -1 && !in(i, goers.size())) return -10;
            int[][] best = {null, {0}};
            doors(new ArrayList<>(), 0, best);
            if (best[0] == null) return -6;
            return i == -1 ? best[1][0] : best[0][i];
        }

        /** All orders of homes, rising. */
        private void doors(List<Integer> chosen, int sum, int[][] best) {
            int k = chosen.size();
            if (k == goers.size()) {
                if (best[0] != null && sum >= best[1][0]) return;
                best[0] = chosen.stream().mapToInt(Integer::intValue).toArray();
                best[1][0] = sum;
                return;
            }
            for (int j = 0; j < goers.size(); j++) {
                int n = chosen.contains(j) ? -1 : far(goers.get(k)[3], goers.get(j)[1]);
                if (n < 0) continue;
                chosen.add(j);
                doors(chosen, sum + n, best);
                chosen.remove(k);
            }
        }

        private int who() {
            int bits = 0;
            for (int i = 0; i < goers.size(); i++) {
                int[] g = goers.get(i);
                boolean fits = true;
                for (int[] s : sounds) {
                    int at = cellAfter(g, s[1]);
                    int x = loud(g[0], at / 4, minute + s[1]);
                    fits &= step(g, at) != at && x == s[2] && heard(s[0], x, at);
                }
                if (fits) bits += 1 << i;
            }
            return bits;
        }

        private static int bits(List<Integer> kinds) {
            int bits = 0;
            for (int k : kinds) bits += 1 << k;
            return bits;
        }

        private List<Integer> goerKinds(int i) {
            List<Integer> kinds = new ArrayList<>(List.of(0, 1, 2, 3, 4, 5));
            for (int[] n : notes) if (n[0] == i) kinds.removeIf(k -> loud(k, n[1], n[2]) != n[3]);
            return kinds;
        }

        private List<Integer> windowKinds(int w) {
            List<Integer> kinds = new ArrayList<>(List.of(0, 1, 2, 3, 4, 5));
            for (int[] n : marks) if (n[0] == w) kinds.removeIf(k -> hear(k, n[1], n[2]) >= 1 != (n[3] == 1));
            return kinds;
        }

        private int look(List<Integer> kinds) {
            if (kinds.isEmpty()) return -1;
            int best = 0;
            int fewest = 99;
            for (int look : new int[] {0, 1, 10, 11, 20, 21, 30, 31, 40, 41}) {
                int[] by = new int[40];
                int most = 0;
                for (int k : kinds) most = Math.max(most, ++by[loud(k, look / 10, look % 10)]);
                if (most < fewest) best = look;
                fewest = Math.min(fewest, most);
            }
            return best;
        }

        private int ask(List<Integer> kinds) {
            if (kinds.isEmpty()) return -1;
            int best = 0;
            int fewest = 99;
            for (int ask = 0; ask < 100; ask++) {
                if (ask % 10 > 7) continue;
                int[] by = new int[2];
                for (int k : kinds) by[hear(k, ask / 10, ask % 10) >= 1 ? 1 : 0]++;
                if (Math.max(by[0], by[1]) < fewest) best = ask;
                fewest = Math.min(fewest, Math.max(by[0], by[1]));
            }
            return best;
        }

        private int shy(int a, int b, int k) {
            int[][] first = new int[10][10];
            int[][] second = new int[10][10];
            for (int i = 0; i < 10; i++) {
                for (int j = 0; j < 10; j++) {
                    boolean met = meeting(a, b, i, j, 30) >= 0;
                    first[i][j] = (met ? 5 : 0) - i / 3;
                    second[i][j] = (met ? 0 : 5) - j / 3;
                }
            }
            List<Integer> rest = new ArrayList<>();
            for (int i = 0; i < 10; i++) {
                for (int j = 0; j < 10; j++) {
                    int bestA = -99;
                    int bestB = -99;
                    for (int o = 0; o < 10; o++) {
                        bestA = Math.max(bestA, first[o][j]);
                        bestB = Math.max(bestB, second[i][o]);
                    }
                    if (first[i][j] == bestA && second[i][j] == bestB) rest.add(10 * i + j);
                }
            }
            return k < 0 ? rest.size() : k < rest.size() ? rest.get(k) : -5;
        }

        /** All ways in which the ladders may be drawn up. */
        private int odds(int a, int b, int c) {
            long sum = 0;
            List<int[]> kept = copy(ladders);
            for (int up = 0; up < 1 << ladders.size(); up++) {
                long weight = 1;
                for (int k = 0; k < ladders.size(); k++) {
                    boolean drawn = (up >> k & 1) == 1;
                    // one that is up already may be told either way, as it stays
                    weight *= drawn ? c : 10 - c;
                    if (drawn) ladders.get(k)[1] = 0;
                }
                if (far(a, b) >= 0) sum += weight;
                ladders = copy(kept);
            }
            above = sum;
            below = 1;
            for (int k = 0; k < ladders.size(); k++) below *= 10;
            for (int p : new int[] {2, 5}) {
                while (above % p == 0 && below % p == 0) {
                    above /= p;
                    below /= p;
                }
            }
            if (above == 0) below = 1;
            return 1;
        }

        private int nights(int seed, int n) {
            Model m = twin();
            long x = seed;
            int heard = 0;
            for (int t = 0; t < n; t++) {
                x = Math.floorMod(x * 1103515245L + 12345L, 1L << 31);
                int g = (int) ((x >> 16) % 6);
                if (g < goers.size()) m.goers.get(g)[4] = 1 - m.goers.get(g)[4];
                for (int w = 0; w < windows.size(); w++) heard += Integer.bitCount(m.hears(w));
                m.go(1);
            }
            return heard;
        }

        private int count(int what) {
            int there = 0;
            for (int[] g : goers) if (g[3] == goal(g)) there++;
            return new int[] {goers.size(), ladders.size(), windows.size(), minute, there, sounds.size(), notes.size(),
                marks.size(), past.size(), text.length()}[what];
        }

        long digest() {
            long h = 1601;
            for (int what = 0; what < 10; what++) h = 31 * h + count(what);
            for (List<int[]> rows : List.of(ladders, goers, windows, sounds, notes, marks)) {
                for (int[] r : rows) for (int v : r) h = 31 * h + v;
            }
            return 31 * (31 * h + above) + below;
        }

        private int read() {
            Matcher tokens = Pattern.compile("[a-z]+|[0-9]+|;|[^ ]", Pattern.DOTALL).matcher(text);
            Model m = new Model();
            int items = 0;
            List<String> item = new ArrayList<>();
            while (tokens.find()) {
                item.add(tokens.group());
                int state = m.item(item, items);
                if (state < 0) return -10 - tokens.start();
                if (state > 0) {
                    items++;
                    item.clear();
                }
            }
            if (!item.isEmpty() || items == 0) return -10 - text.length();
            take(m);
            return items;
        }

        /** 1 if an item stands, 0 if it goes on, -1 if its last token can not stand there. */
        private int item(List<String> item, int items) {
            String word = item.get(0);
            int n = item.size() - 1;
            String last = item.get(n);
            int needed = word.equals("back") ? 0 : word.equals("goer") ? 3 : word.equals("window") ? 2 : 1;
            if (n == 0) {
                if (items == 0) return word.equals("back") ? 0 : -1;
                if (!List.of("ladder", "goer", "window", "turn", "draw", "minutes").contains(word)) return -1;
                boolean full = word.equals("ladder") && ladders.size() == 6 || word.equals("goer") && goers.size() == 6
                    || word.equals("window") && windows.size() == 4;
                return full ? -1 : 0;
            }
            if (n > needed) {
                if (!last.equals(";")) return -1;
                if (needed > 0) apply(item);
                return 1;
            }
            if (!last.matches("[0-9][0-9]?")) return -1;
            int v = Integer.parseInt(last);
            switch (word) {
                case "ladder": {
                    for (int[] l : ladders) if (l[0] == v) return -1;
                    return v < 16 ? 0 : -1;
                }
                case "goer": case "window": return v < (n == 1 ? 6 : 20) ? 0 : -1;
                case "turn": return v < goers.size() ? 0 : -1;
                case "draw": return v < ladders.size() ? 0 : -1;
                default: return v > 0 ? 0 : -1;
            }
        }

        private void apply(List<String> item) {
            int[] v = new int[3];
            for (int k = 1; k < item.size() - 1; k++) v[k - 1] = Integer.parseInt(item.get(k));
            switch (item.get(0)) {
                case "ladder": ladders.add(new int[] {v[0], 1}); break;
                case "goer": goers.add(new int[] {v[0], v[1], v[2], v[1], 0}); break;
                case "window": windows.add(new int[] {v[0], v[1]}); break;
                case "turn": goers.get(v[0])[4] ^= 1; break;
                case "draw": ladders.get(v[0])[1] ^= 1; break;
                default: go(v[0]); break;
            }
        }
    }
}
