import java.util.ArrayList;
import java.util.HashSet;
import java.util.List;
import java.util.Set;

/** THE CONFIG of section 4 and SAFE of section 9 once more, in their plainest form, for ModelTest. */
final class PlainConfig {
    record Region(int size, int area, int areasBefore) {
    }

    record Channel(int from, int to, int length) {
    }

    record Slot(int who, int steps) {
    }

    final List<Region> regions = new ArrayList<>();
    final List<Channel> channels = new ArrayList<>();
    final List<Slot> slots = new ArrayList<>();
    /** The place of the FAULT; -1 without one. */
    final int fault;
    private final List<Integer> words;
    private int at;

    PlainConfig(List<Integer> words) {
        this.words = words;
        fault = read() ? -1 : at;
    }

    /** Whether the next word is within bounds; else it is the FAULT. */
    private boolean isNext(int least, int most) {
        return at < words.size() && words.get(at) >= least && words.get(at) <= most;
    }

    private int pass() {
        at++;
        return words.get(at - 1);
    }

    private boolean read() {
        if (!isNext(1, 8)) {
            return false;
        }
        int n = pass();
        Set<Integer> taken = new HashSet<>();
        for (int p = 0; p < n; p++) {
            if (!readRegion(taken)) {
                return false;
            }
        }
        if (!isNext(0, 16)) {
            return false;
        }
        for (int left = pass(); left > 0; left--) {
            if (!readChannel()) {
                return false;
            }
        }
        if (!isNext(1, 32)) {
            return false;
        }
        for (int left = pass(); left > 0; left--) {
            if (!isNext(0, n - 1) && !isNext(255, 255)) {
                return false;
            }
            int who = pass();
            if (!isNext(1, 1000)) {
                return false;
            }
            slots.add(new Slot(who, pass()));
        }
        return at == words.size();
    }

    private boolean readRegion(Set<Integer> taken) {
        if (!isNext(0, 8176)) {
            return false;
        }
        int base = pass();
        if (!isNext(16, 2048) || base + words.get(at) > 8192) {
            return false;
        }
        for (int w = base; w < base + words.get(at); w++) {
            if (taken.contains(w)) {
                return false;
            }
        }
        int size = pass();
        for (int w = base; w < base + size; w++) {
            taken.add(w);
        }
        int areas = regions.stream().mapToInt(Region::area).sum();
        if (!isNext(0, 8) || areas + words.get(at) > 32) {
            return false;
        }
        regions.add(new Region(size, pass(), areas));
        return true;
    }

    private boolean readChannel() {
        if (!isNext(0, regions.size() - 1)) {
            return false;
        }
        int from = pass();
        if (!isNext(0, regions.size() - 1) || words.get(at) == from) {
            return false;
        }
        int to = pass();
        if (!isNext(1, 16)) {
            return false;
        }
        channels.add(new Channel(from, to, pass()));
        return true;
    }

    /** Whether q FLOWS to p: goes on from q as far as CHANNELS lead. */
    boolean leads(int q, int p) {
        Set<Integer> come = new HashSet<>();
        Set<Integer> more = new HashSet<>(Set.of(q));
        while (come.addAll(more)) {
            for (Channel c : channels) {
                if (come.contains(c.from)) {
                    more.add(c.to);
                }
            }
        }
        return come.contains(p);
    }

    /** The least REACHED place that is BAD for n words; -1 without one. */
    static int leastBad(List<Integer> image, int n) {
        Set<Integer> reached = new HashSet<>();
        Set<Integer> more = new HashSet<>(Set.of(0));
        while (reached.addAll(more)) {
            for (int place : reached) {
                if (place >= 0 && place < image.size()) {
                    more.addAll(reachedFrom(place, image.get(place)));
                }
            }
        }
        int least = Integer.MAX_VALUE;
        for (int place : reached) {
            boolean none = place < 0 || place >= image.size();
            if (none || isBad(image.get(place), image.size(), n, reached)) {
                least = Math.min(least, Math.max(place, 0));
            }
        }
        return least == Integer.MAX_VALUE ? -1 : least;
    }

    private static Set<Integer> reachedFrom(int place, int w) {
        Set<Integer> next = new HashSet<>();
        int op = w >>> 26;
        if (op != 36) {
            next.add(place + 1);
        }
        if (op >= 30 && op <= 36) {
            next.add(place + PlainBoot.signed(w));
        }
        return next;
    }

    private static boolean isBad(int w, int length, int n, Set<Integer> reached) {
        int op = w >>> 26;
        int m = PlainBoot.signed(w);
        if (op == 0 || op == 37 || op > 38) {
            return true;
        }
        if (op == 38) {
            return m == 1 || m == 8 || m < 0 || m > 34;
        }
        if (op < 22 || op > 29) {
            return false;
        }
        int octets = PlainBoot.octets(op);
        if ((w >> 18 & 15) != 0 || Math.floorMod(m, octets) != 0 || m < 0 || m + octets > 4 * n) {
            return true;
        }
        return op >= 27 && m / 4 < length && reached.contains(m / 4);
    }
}
