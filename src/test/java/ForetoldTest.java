/** What is foretold (promises 29 to 33) is what then comes, from every cycle of some runs on. */
public final class ForetoldTest {
    private static final int SCENES = 8;

    public static void main(String[] args) {
        for (int scene = 0; scene < SCENES; scene++) {
            for (int start = 0; start < 70; start++) {
                compare(scene, start);
            }
        }
        Kit.end("ForetoldTest");
    }

    private static RankEntry at(int scene, int start) {
        RankEntry x = build(scene);
        for (int i = 0; i < start; i++) {
            x.run(1);
        }
        return x;
    }

    private static RankEntry build(int scene) {
        switch (scene) {
            case 0: return lazyOnes();
            case 1: return fullStack(92);
            case 2: return fullStack(91);
            case 3: return sleeper();
            case 4: return basedAndSplit();
            case 5: return escalating();
            case 6: return counting();
            default: return spoiling();
        }
    }

    private static RankEntry lazyOnes() {
        RankEntry x = Kit.with(0, 20, 0, 16, 20, 1, 40, 22, 0, 1, 5, 0, 6, 11, 0, 3);
        Kit.serve(x, 1, 90, 64, 1, 0, 3, 18);
        Kit.serve(x, 2, 60, 80, 20, 0, 3, 21, 0, 1, 23, 2, 0, 18);
        Kit.serve(x, 3, 30, 112, 9, 0, 10, 0, 18);
        Kit.serve(x, 18, 20, 128, 1, 6, 7, 18);
        for (int i = 0; i < 9; i++) {
            x.arrive(1 + i % 3, 2 + 7 * i);
        }
        x.hold(9, true);
        return x;
    }

    /** FOURS have room or not, and words have or not; HARD sets the stack back by popping. */
    private static RankEntry fullStack(int words) {
        RankEntry x = Kit.with(0, 9, 4, 11, 0, 0);
        x.run(2 * words);
        Kit.put(x, 0, 20, 0, 33, 11, 0, 0);
        Kit.serve(x, 1, 90, 64, 1, 0, 3, 10, 5, 18);
        Kit.serve(x, 19, 40, 80, 10, 6, 10, 6, 10, 6, 18);
        x.vector(20, 96);
        Kit.put(x, 96, 10, 6, 10, 6, 10, 6, 10, 6, 10, 6, 10, 6, 10, 6, 10, 6, 11, 0, 200);
        Kit.put(x, 200, 9, 4, 9, 4, 9, 4, 9, 4, 9, 7, 1, 7, 90, 7, 7, 8, 9, 7, 18);
        x.arrive(1, 3);
        x.arrive(1, 21);
        return x;
    }

    private static RankEntry sleeper() {
        RankEntry x = Kit.with(0, 19, 16, 1, 19, 27, 0, 16, 0, 11, 0, 0);
        Kit.serve(x, 16, 90, 64, 5, 0, 1, 18);
        Kit.put(x, 64, 1, 1, 2, 5, 0, 1, 18);
        Kit.serve(x, 5, 50, 80, 19, 18);
        Kit.serve(x, 6, 40, 96, 18);
        x.timer(23);
        x.arrive(5, 11);
        x.arrive(6, 31);
        x.arrive(5, 50);
        return x;
    }

    private static RankEntry basedAndSplit() {
        RankEntry x = Kit.with(0, 17, 100, 1, 0, 5, 4, 0, 0, 17, 0, 4, 0, 0, 11, 0, 0);
        x.split(3);
        Kit.serve(x, 1, 99, 64, 17, 90, 4, 0, 0, 18);
        Kit.serve(x, 2, 97, 80, 18);
        Kit.serve(x, 3, 80, 96, 25, 2, 4, 18);
        Kit.serve(x, 10, 70, 96);
        for (int i = 0; i < 12; i++) {
            x.arrive(1 + i % 3, 3 + 5 * i);
        }
        x.arrive(10, 40);
        return x;
    }

    private static RankEntry escalating() {
        RankEntry x = Kit.with(0, 1, 1, 0, 11, 0, 3);
        Kit.serve(x, 1, 90, 64, 5, 0, 1, 18);
        Kit.serve(x, 18, 90, 80, 18);
        x.vector(20, 96);
        Kit.put(x, 96, 1, 1, 1, 4, 0, 0, 4, 0, 0, 25, 1, 1, 18);
        x.arrive(1, 5);
        x.arrive(1, 40);
        return x;
    }

    private static RankEntry counting() {
        RankEntry x = Kit.with(0, 1, 0, 1, 28, 1, 3, 3, 1, 0, 29, 1, 3, 12, 0, 32, 11, 0, 3);
        Kit.put(x, 32, 1, 1, 5, 29, 1, 3, 14, 4, 11, 0, 3);
        Kit.serve(x, 4, 9, 64, 28, 2, 3, 27, 2, 14, 5, 18);
        Kit.serve(x, 5, 9, 80, 15, 4, 18);
        Kit.put(x, 0, 1, 1, 4, 29, 1, 3, 1, 0, 1, 11, 0, 100);
        Kit.put(x, 100, 28, 1, 3, 3, 1, 0, 29, 1, 3, 12, 0, 32, 11, 0, 100);
        Kit.put(x, 32, 1, 1, 5, 29, 1, 3, 14, 4, 11, 0, 100);
        return x;
    }

    private static RankEntry spoiling() {
        RankEntry x = Kit.with(0, 20, 1, 50, 11, 0, 3);
        Kit.put(x, 5, 4, 11, 0, 3);
        Kit.serve(x, 1, 90, 64, 10, 7, 1, 6, 1, 6, 7, 6, 9, 7, 18);
        Kit.serve(x, 2, 50, 80, 10, 7, 18);
        Kit.serve(x, 19, 40, 96, 9, 7, 18);
        Kit.serve(x, 3, 30, 112, 26, 3, 20, 2, 5, 18);
        x.arrive(1, 4);
        x.arrive(3, 22);
        x.arrive(2, 44);
        return x;
    }

    private static void compare(int scene, int start) {
        RankEntry x = at(scene, start);
        RankEntry y = at(scene, start);
        String where = "scene " + scene + " from " + start + ": ";
        int[] soon = new int[21];
        java.util.Arrays.fill(soon, -1);
        int began = 0;
        int quiet = isQuiet(y) ? 0 : -1;
        int asked = y.state(0) == 0 && y.state(2) == 0 && y.state(13) != -1 ? 1 : 0;
        int keeps = -1;
        boolean longer = false;
        int depth = y.count(11);
        String now = kept(y);
        for (int n = 1; n <= 300 && y.state(0) != 5; n++) {
            int before = y.count(1);
            y.run(1);
            if (y.count(1) > before) {
                int who = y.nest(y.count(11) - 1);
                Kit.due(30, where + "order(" + began + ", false)", x.order(began, false), who);
                began++;
                soon[who] = soon[who] == -1 ? n : soon[who];
            }
            quiet = quiet == -1 && isQuiet(y) ? n : quiet;
            longer = longer || y.count(11) > depth;
            if (asked == 1 && keeps == -1 && longer && y.count(11) == depth && y.state(0) == 0) {
                keeps = kept(y).equals(now) ? 1 : 0;
            }
        }
        Kit.due(30, where + "order(" + began + ", false)", x.order(began, false), -1);
        Kit.due(31, where + "quiet(false)", x.quiet(false), quiet);
        Kit.due(33, where + "keeps()", x.keeps(), keeps);
        for (int i = 0; i < 21; i++) {
            Kit.due(29, where + "soon(" + i + ")", x.soon(i), soon[i]);
        }
        Kit.due(32, where + "window(1)", x.window(1), windowByHand(scene, start, 1));
    }

    private static int windowByHand(int scene, int start, int source) {
        int bits = 0;
        for (int d = 0; d < 20; d++) {
            RankEntry y = at(scene, start);
            for (int i = 0; i < d; i++) {
                y.run(1);
            }
            y.pend(source);
            int before = y.count(1);
            for (int n = 0; n < 40 && y.count(1) == before; n++) {
                y.run(1);
            }
            if (y.count(1) > before && y.nest(y.count(11) - 1) == source) {
                bits |= 1 << d;
            }
        }
        return bits;
    }

    private static boolean isQuiet(RankEntry y) {
        return y.state(0) == 0 && y.count(11) == 0 && y.state(13) == -1;
    }

    private static String kept(RankEntry y) {
        StringBuilder all = new StringBuilder();
        for (int i : new int[] {0, 1, 2, 3, 8, 9, 10, 11}) {
            all.append(Kit.reg(y, i)).append(' ');
        }
        for (int i : new int[] {4, 5, 6, 7}) {
            all.append(y.state(i)).append(' ');
        }
        return all.toString();
    }
}
