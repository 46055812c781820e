import java.util.ArrayList;
import java.util.List;
import java.util.Random;

/** Random code for random runs: mostly handlers that end, some that forge frames, some mere bytes. */
final class Programs {
    private final Random random;
    private final boolean forges;
    private final boolean reckons;

    Programs(Random random) {
        this.random = random;
        forges = random.nextInt(3) == 0;
        reckons = random.nextInt(3) == 0;
    }

    int[] make() {
        int[] image = new int[512];
        int kind = random.nextInt(12);
        if (kind == 0) {
            for (int i = 0; i < 512; i++) {
                image[i] = random.nextInt(4) == 0 ? random.nextInt(256) : random.nextInt(31);
            }
            return image;
        }
        for (int block = 0; block < 8; block++) {
            place(image, block * 64, block == 0 ? mainLoop() : handler(block * 64));
        }
        if (kind == 1) {
            image[random.nextInt(512)] = random.nextInt(256);
        }
        return image;
    }

    private void place(int[] image, int at, List<Integer> bytes) {
        for (int i = 0; i < bytes.size() && i < 64; i++) {
            image[at + i & 511] = bytes.get(i);
        }
    }

    private List<Integer> mainLoop() {
        List<Integer> all = new ArrayList<>();
        int size = 1 + random.nextInt(10);
        boolean pusher = random.nextInt(6) == 0;
        for (int i = 0; i < size; i++) {
            if (pusher) {
                all.addAll(List.of(9, random.nextInt(8)));
            }
            all.addAll(random.nextInt(7) == 0 ? List.of(19) : ordinary());
        }
        if (random.nextInt(10) != 0) {
            all.addAll(List.of(11, 0, 0));
        }
        return all;
    }

    private List<Integer> handler(int at) {
        List<Integer> all = new ArrayList<>();
        int size = random.nextInt(7);
        for (int i = 0; i < size; i++) {
            int what = random.nextInt(14);
            if ((what == 0 || what == 3) && forges) {
                all.addAll(forged());
            } else if (what == 1) {
                int to = at + all.size() + 3 + random.nextInt(4);
                all.addAll(List.of(11 + random.nextInt(3), to / 256, to % 256));
            } else if (what == 2) {
                int reg = random.nextInt(8);
                all.addAll(List.of(9, reg));
                all.addAll(ordinary());
                all.addAll(List.of(10, reg));
            } else {
                all.addAll(ordinary());
            }
        }
        all.add(18);
        all.add(18);
        all.add(18);
        all.add(18);
        return all;
    }

    /** Changes the frame on the stack: its mark, its place, its size, or what lies below it. */
    private List<Integer> forged() {
        switch (random.nextInt(6)) {
            case 0: return List.of(10, 5, 1, 6, 4, 6, 5, 6, 9, 5);
            case 1: return List.of(26, random.nextInt(256));
            case 2: return List.of(10, 5);
            case 3: return List.of(9, random.nextInt(8));
            case 4: return List.of(10, 5, 10, 6, 9, random.nextInt(8), 9, 5);
            default:
                List<Integer> all = new ArrayList<>(List.of(10, 5, 10, 6, 1, 4, random.nextInt(3) == 0 ? 120 + random.nextInt(130) : 255, 7, 4, 23));
                for (int i = 0; i < 8; i++) {
                    all.addAll(List.of(9, i < 4 ? 4 : random.nextInt(8)));
                }
                all.addAll(List.of(1, 7, 4, 6, 5, 7, 9, 6, 9, 5));
                return all;
        }
    }

    /** Great, small and negative numbers, and zeros of either sign. */
    private List<Integer> singles() {
        int x = random.nextInt(4);
        int y = random.nextInt(4);
        switch (random.nextInt(7)) {
            case 0: return List.of(20, x, 1, 22, x, x, 22, x, x);
            case 1: return List.of(22, x, x);
            case 2: return List.of(1, x, random.nextInt(256), 7, x, 15 + random.nextInt(17), 24, y, x);
            case 3: return List.of(20, x, 0, 22, x, y);
            case 4: return List.of(21, x, y);
            case 5: return List.of(6, x, x, 1, y, 1 + random.nextInt(200), 3, x, y, 24, random.nextInt(4), x);
            default: return List.of(22, x, y);
        }
    }

    private List<Integer> ordinary() {
        int x = random.nextInt(256);
        int y = random.nextInt(256);
        if (reckons && random.nextInt(3) == 0) {
            return singles();
        }
        switch (random.nextInt(24)) {
            case 0: case 1: return List.of(1, x, y);
            case 2: return List.of(2, x, y);
            case 3: return List.of(3, x, y);
            case 4: return List.of(4, x, y);
            case 5: return random.nextInt(4) == 0 ? List.of(5, x, y) : List.of(1, y, 1 + x / 2, 5, x, y);
            case 6: return List.of(6, x, y);
            case 7: return List.of(7, x, y);
            case 8: return List.of(8, x, y);
            case 9: return List.of(9, x);
            case 10: return List.of(10, x);
            case 11: return List.of(14, x);
            case 12: return List.of(15, x);
            case 13: return random.nextInt(3) == 0 ? List.of(16, x) : List.of(16, 0);
            case 14: return List.of(17, random.nextInt(3) == 0 ? x : 0);
            case 15: return List.of(20, x, y);
            case 16: return List.of(21, x, y);
            case 17: return List.of(22, x, y);
            case 18: return List.of(23, x, y);
            case 19: return List.of(24, x, y);
            case 20: return List.of(25, x, y);
            case 21: return List.of(27, x);
            case 22: return List.of(28, x, y);
            default: return List.of(29, x, y);
        }
    }
}
