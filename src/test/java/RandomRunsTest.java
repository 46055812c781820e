import java.util.ArrayList;
import java.util.List;
import java.util.Map;
import java.util.NoSuchElementException;
import java.util.Random;
import java.util.TreeMap;

/** Random runs of calls, whose answers are those of a second writing of the document (support/Model). */
public final class RandomRunsTest {
    private static final String[] NAMES = {"load", "code", "rank", "enable", "vector", "split", "hold", "pend",
        "clear", "timer", "arrive", "run", "till", "reset", "reg", "word", "data", "out", "source", "nest", "state",
        "count", "event", "waited", "ahead", "splits", "escalates", "soon", "order", "quiet", "window", "keeps",
        "cost", "pushes", "room"};
    /** How often a call is made: those that change something more often than those that ask. */
    private static final int[] WEIGHTS = {1, 1, 2, 3, 1, 1, 4, 8, 3, 1, 5, 30, 3, 1, 3, 3, 2, 2, 4, 2, 12, 10, 10, 2,
        2, 2, 2, 3, 4, 3, 1, 6, 1, 1, 2};
    private static final long NO_ELEMENT = Long.MIN_VALUE;
    private static final long NO_INDEX = Long.MIN_VALUE + 1;

    private static int wrong = 0;
    private static final Map<String, Integer> SEEN = new TreeMap<>();

    public static void main(String[] args) {
        int runs = args.length > 0 ? Integer.parseInt(args[0]) : 1200;
        int seed = args.length > 1 ? Integer.parseInt(args[1]) : 1;
        for (int i = 0; i < runs && wrong < 5; i++) {
            oneRun(seed * 1000003L + i);
        }
        needs("late", "chained", "abandoned", "saved", "spared", "escalated", "merged", "woken", "locked", "ten",
            "no room for fours", "no room for a word", "stacked for none", "chained to none", "bad frames",
            "fours without room", "no place to return to", "no finite number", "taken by itself", "came again",
            "infinite", "negative zero", "keeps 0", "keeps 1", "plain is unlike");
        if (args.length > 0) {
            System.out.println(SEEN);
        }
        System.out.println(wrong == 0 ? "random runs: all answers are as due" : wrong + " random runs went wrong");
        if (wrong != 0) {
            System.exit(1);
        }
    }

    /** A comparison says nothing of what never came up in it. */
    private static void needs(String... all) {
        for (String what : all) {
            if (SEEN.getOrDefault(what, 0) == 0) {
                System.out.println("random runs: never came up: " + what);
                wrong++;
            }
        }
    }

    private static void oneRun(long seed) {
        Random random = new Random(seed);
        RankEntry x = new RankEntry();
        Model m = new Model();
        List<String> log = new ArrayList<>();
        prepare(random, x, m);
        for (int i = 0; i < 330; i++) {
            int call = pick(random);
            int a = argument(random, call, 0);
            int b = argument(random, call, 1);
            long w = random.nextLong();
            boolean on = random.nextInt(NAMES[call].equals("enable") ? 4 : 2) != 0;
            long got;
            try {
                got = ofClass(x, call, a, b, w, on);
            } catch (NoSuchElementException e) {
                got = NO_ELEMENT;
            } catch (IndexOutOfBoundsException e) {
                got = e.getClass() == IndexOutOfBoundsException.class ? NO_INDEX : NO_INDEX + 1;
            }
            long want = ofModel(m, call, a, b, w, on);
            log.add(NAMES[call] + "(" + a + ", " + b + ", " + w + ", " + on + ") = " + got);
            if (got == want && i % 10 == 0) {
                String unlike = whole(x, m);
                if (unlike != null) {
                    log.add(unlike);
                    got = want + 1;
                }
            }
            note(NAMES[call] + " " + want, NAMES[call].equals("keeps"));
            note("plain is unlike", i % 30 == 0 && m.quiet(true) != m.quiet(false));
            if (got != want) {
                wrong++;
                System.out.println("seed " + seed + ", call " + i + ": due is " + want);
                log.subList(Math.max(0, log.size() - 12), log.size()).forEach(System.out::println);
                return;
            }
        }
        m.counts.forEach((k, v) -> SEEN.merge(k, v, Integer::sum));
    }

    private static void note(String what, boolean is) {
        if (is) {
            SEEN.merge(what, 1, Integer::sum);
        }
    }

    private static void prepare(Random random, RankEntry x, Model m) {
        int[] image = new Programs(random).make();
        for (int at = 0; at < 512; at += 8) {
            long word = 0;
            for (int i = 0; i < 8; i++) {
                word = word << 8 | image[at + i];
            }
            x.load(at, word);
            m.load(at, word);
        }
        int enabled = 1 + random.nextInt(8);
        int split = random.nextInt(8);
        x.split(split);
        m.split(split);
        for (int i = 0; i < 21; i++) {
            int at = 64 * (1 + random.nextInt(7));
            int rank = random.nextInt(256);
            boolean on = random.nextInt(8) < enabled;
            x.vector(i, at);
            m.vector(i, at);
            x.rank(i, rank);
            m.rank(i, rank);
            x.enable(i, on);
            m.enable(i, on);
        }
    }

    private static int pick(Random random) {
        int sum = 0;
        for (int w : WEIGHTS) {
            sum += w;
        }
        int at = random.nextInt(sum);
        int call = 0;
        while (at >= WEIGHTS[call]) {
            at -= WEIGHTS[call];
            call++;
        }
        return call;
    }

    private static int argument(Random random, int call, int which) {
        int any = random.nextInt(60);
        if (any == 0) {
            return new int[] {Integer.MIN_VALUE, Integer.MAX_VALUE, -1, 512, 1000, 300}[random.nextInt(6)];
        }
        switch (NAMES[call]) {
            case "load": return random.nextInt(507) - 1;
            case "code": return random.nextInt(514) - 1;
            case "rank": return which == 0 ? random.nextInt(22) - 1 : random.nextInt(258) - 1;
            case "vector": return which == 0 ? random.nextInt(22) : 64 * random.nextInt(9);
            case "split": return random.nextInt(10) - 1;
            case "hold": return random.nextInt(6) == 0 ? 7 + random.nextInt(10) : 8 + random.nextInt(2);
            case "timer": return random.nextInt(3) == 0 ? random.nextInt(1002) - 1 : random.nextInt(60);
            case "arrive": return which == 0 ? random.nextInt(19) : random.nextInt(40);
            case "run": return random.nextInt(8) == 0 ? random.nextInt(203) - 1 : random.nextInt(9);
            case "word": return random.nextInt(5) == 0 ? random.nextInt(98) - 1 : random.nextInt(30);
            case "out": return random.nextInt(66) - 1;
            case "reg": return random.nextInt(14) - 1;
            case "data": return random.nextInt(18) - 1;
            case "source": return which == 0 ? random.nextInt(22) : random.nextInt(10) - 1;
            case "nest": return random.nextInt(6) - 1;
            case "state": return random.nextInt(18) - 1;
            case "count": return random.nextInt(19) - 1;
            case "event": return which == 0 ? random.nextInt(26) - 1 : random.nextInt(6) - 1;
            case "escalates": return 17 + random.nextInt(4);
            case "order": return random.nextInt(12) - 1;
            default: return random.nextInt(23) - 1;
        }
    }

    /** Every answer that tells the state, compared; null: all alike. */
    private static String whole(RankEntry x, Model m) {
        for (int i = 0; i < 16; i++) {
            if (x.state(i) != m.state(i)) {
                return "state(" + i + ") is " + x.state(i) + ", due is " + m.state(i);
            }
            if (x.data(i) != m.data(i)) {
                return "data(" + i + ") is " + x.data(i) + ", due is " + m.data(i);
            }
        }
        for (int i = 0; i < 17; i++) {
            if (x.count(i) != m.count(i)) {
                return "count(" + i + ") is " + x.count(i) + ", due is " + m.count(i);
            }
        }
        for (int i = 0; i < 12; i++) {
            if (x.reg(i) != m.reg(i)) {
                return "reg(" + i + ") is " + x.reg(i) + ", due is " + m.reg(i);
            }
        }
        for (int i = 0; i < 96; i++) {
            if (x.word(i) != m.word(i)) {
                return "word(" + i + ") is " + x.word(i) + ", due is " + m.word(i);
            }
        }
        for (int i = 0; i < m.count(16); i++) {
            for (int k = 0; k < 4; k++) {
                if (x.event(i, k) != m.event(i, k)) {
                    return "event(" + i + ", " + k + ") is " + x.event(i, k) + ", due is " + m.event(i, k);
                }
            }
        }
        for (int i = 0; i < 21; i++) {
            for (int k = 0; k < 8; k++) {
                if (x.source(i, k) != m.source(i, k)) {
                    return "source(" + i + ", " + k + ") is " + x.source(i, k) + ", due is " + m.source(i, k);
                }
            }
            if (x.nest(i) != m.nest(i) || x.waited(i) != m.waited(i)) {
                return "nest or waited(" + i + ")";
            }
        }
        return null;
    }

    private static long ofClass(RankEntry x, int call, int a, int b, long w, boolean on) {
        switch (NAMES[call]) {
            case "load": return x.load(a, w) ? 1 : 0;
            case "code": return x.code(a);
            case "rank": return x.rank(a, b) ? 1 : 0;
            case "enable": return x.enable(a, on) ? 1 : 0;
            case "vector": return x.vector(a, b) ? 1 : 0;
            case "split": return x.split(a) ? 1 : 0;
            case "hold": return x.hold(a, on) ? 1 : 0;
            case "pend": return x.pend(a) ? 1 : 0;
            case "clear": return x.clear(a) ? 1 : 0;
            case "timer": return x.timer(a) ? 1 : 0;
            case "arrive": return x.arrive(a, b) ? 1 : 0;
            case "run": return x.run(a);
            case "till": return x.till(a);
            case "reset": return x.reset();
            case "reg": return x.reg(a);
            case "word": return x.word(a);
            case "data": return x.data(a);
            case "out": return x.out(a);
            case "source": return x.source(a, b);
            case "nest": return x.nest(a);
            case "state": return x.state(a);
            case "count": return x.count(a);
            case "event": return x.event(a, b);
            case "waited": return x.waited(a);
            case "ahead": return x.ahead(a, b) ? 1 : 0;
            case "splits": return x.splits(a);
            case "escalates": return x.escalates(a);
            case "soon": return x.soon(a);
            case "order": return x.order(a, on);
            case "quiet": return x.quiet(on);
            case "window": return x.window(a);
            case "keeps": return x.keeps();
            case "cost": return x.cost(a);
            case "pushes": return x.pushes(a);
            default: return x.room(on);
        }
    }

    private static long ofModel(Model m, int call, int a, int b, long w, boolean on) {
        try {
            switch (NAMES[call]) {
                case "load": return m.load(a, w) ? 1 : 0;
                case "code": return m.code(a);
                case "rank": return m.rank(a, b) ? 1 : 0;
                case "enable": return m.enable(a, on) ? 1 : 0;
                case "vector": return m.vector(a, b) ? 1 : 0;
                case "split": return m.split(a) ? 1 : 0;
                case "hold": return m.hold(a, on) ? 1 : 0;
                case "pend": return m.pend(a) ? 1 : 0;
                case "clear": return m.clear(a) ? 1 : 0;
                case "timer": return m.timer(a) ? 1 : 0;
                case "arrive": return m.arrive(a, b) ? 1 : 0;
                case "run": return m.run(a);
                case "till": return m.till(a);
                case "reset": return m.reset();
                case "reg": return m.reg(a);
                case "word": return m.word(a);
                case "data": return m.data(a);
                case "out": return m.out(a);
                case "source": return m.source(a, b);
                case "nest": return m.nest(a);
                case "state": return m.state(a);
                case "count": return m.count(a);
                case "event": return m.event(a, b);
                case "waited": return m.waited(a);
                case "ahead": return m.ahead(a, b) ? 1 : 0;
                case "splits": return m.splits(a);
                case "escalates": return m.escalates(a);
                case "soon": return m.soon(a);
                case "order": return m.order(a, on);
                case "quiet": return m.quiet(on);
                case "window": return m.window(a);
                case "keeps": return m.keeps();
                case "cost": return m.cost(a);
                case "pushes": return m.pushes(a);
                default: return m.room(on);
            }
        } catch (NoSuchElementException e) {
            return NO_ELEMENT;
        } catch (IndexOutOfBoundsException e) {
            return NO_INDEX;
        }
    }
}
