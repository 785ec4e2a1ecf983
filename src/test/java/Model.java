import java.util.ArrayList;
import java.util.Arrays;
import java.util.HashMap;
import java.util.List;
import java.util.Map;
import java.util.TreeSet;

/** The document once more, sentence by sentence, with no thought for speed or room. */
final class Model {
    private static final int NONE = -1;

    private record Made(int branch, int first, int second, List<Integer> order, Map<Integer, int[]> slides) {
        Made edited(int onBranch, int from) {
            Map<Integer, int[]> copies = new HashMap<>();
            slides.forEach((slide, objects) -> copies.put(slide, objects.clone()));
            return new Made(onBranch, from, NONE, new ArrayList<>(order), copies);
        }
    }

    private static final class Told {
        int rank;
        int object;
        int least;
        int most;
    }

    private record Waived(int rule, int slide, int until) {
    }

    /** What one slide becomes: its objects, null if it is gone, and how many clashes there were. */
    private record Fate(int[] objects, int clashes) {
    }

    private final List<Made> versions = new ArrayList<>();
    private final List<Integer> heads = new ArrayList<>();
    private final List<Integer> shows = new ArrayList<>();
    private final List<Told> rules = new ArrayList<>();
    private final List<Waived> waivers = new ArrayList<>();
    private int slides = 0;
    private int today = 0;

    Model() {
        versions.add(new Made(0, NONE, NONE, new ArrayList<>(), new HashMap<>()));
        heads.add(0);
        shows.add(NONE);
    }

    int branch(int version) {
        index(version, versions.size());
        state(heads.size() < 6);
        heads.add(version);
        shows.add(NONE);
        return heads.size() - 1;
    }

    int add(int branch, int place) {
        index(branch, heads.size());
        int size = headOf(branch).order.size();
        index(place, size + 1);
        state(size < 8 && slides < 20 && versions.size() < 40);
        Made made = headOf(branch).edited(branch, heads.get(branch));
        made.order.add(place, slides);
        made.slides.put(slides, new int[4]);
        push(made);
        return slides++;
    }

    int set(int branch, int slide, int object, int value) {
        index(branch, heads.size());
        index(headOf(branch).order.indexOf(slide), 8);
        index(object, 4);
        argument(value >= 0 && value <= 999);
        state(versions.size() < 40);
        Made made = headOf(branch).edited(branch, heads.get(branch));
        int before = made.slides.get(slide)[object];
        made.slides.get(slide)[object] = value;
        push(made);
        return before;
    }

    int drop(int branch, int slide) {
        index(branch, heads.size());
        index(headOf(branch).order.indexOf(slide), 8);
        state(versions.size() < 40);
        Made made = headOf(branch).edited(branch, heads.get(branch));
        made.order.remove(Integer.valueOf(slide));
        made.slides.remove(slide);
        return push(made);
    }

    int head(int branch) {
        index(branch, heads.size());
        return heads.get(branch);
    }

    int about(int version, int what) {
        index(version, versions.size());
        argument(what >= 0 && what <= 4);
        Made made = versions.get(version);
        int[] told = {made.branch, made.first, made.second, made.order.size(), ancestors(version).size()};
        return told[what];
    }

    int value(int version, int slide, int object) {
        index(version, versions.size());
        index(slide, slides);
        index(object, 4);
        int[] objects = versions.get(version).slides.get(slide);
        return objects == null ? NONE : objects[object];
    }

    int slideAt(int version, int place) {
        index(version, versions.size());
        if (place < 0) {
            throw new IndexOutOfBoundsException();
        }
        List<Integer> order = versions.get(version).order;
        return place < order.size() ? order.get(place) : NONE;
    }

    int base(int into, int from) {
        index(into, heads.size());
        index(from, heads.size());
        argument(into != from);
        return commonAncestor(into, from);
    }

    int clashes(int into, int from) {
        index(into, heads.size());
        index(from, heads.size());
        argument(into != from);
        int count = 0;
        for (int slide = 0; slide < slides; slide++) {
            count += fate(into, from, slide, 0).clashes;
        }
        return count;
    }

    int merged(int into, int from, int slide, int object, int settled) {
        index(into, heads.size());
        index(from, heads.size());
        index(slide, slides);
        index(object, 4);
        argument(into != from && (settled == 0 || settled == 1));
        int[] objects = fate(into, from, slide, settled).objects;
        return objects == null ? NONE : objects[object];
    }

    int merge(int into, int from, int settled) {
        index(into, heads.size());
        index(from, heads.size());
        argument(into != from && settled >= -1 && settled <= 1);
        state(settled != NONE || clashes(into, from) == 0);
        TreeSet<Integer> all = new TreeSet<>(headOf(into).order);
        all.addAll(headOf(from).order);
        List<Integer> order = new ArrayList<>(headOf(into).order);
        for (int slide : headOf(from).order) {
            if (!order.contains(slide)) {
                order.add(slide);
            }
        }
        Map<Integer, int[]> objects = new HashMap<>();
        for (int slide : all) {
            int[] result = fate(into, from, slide, settled).objects;
            if (result != null) {
                objects.put(slide, result);
            }
        }
        order.removeIf(slide -> !objects.containsKey(slide));
        Made made = new Made(into, heads.get(into), heads.get(from), order, objects);
        state(order.size() <= 8 && breaks(made, true).isEmpty() && versions.size() < 40);
        return push(made);
    }

    int rule(int rank, int object, int least, int most) {
        index(rank, 3);
        index(object, 4);
        argument(least >= 1 && least <= 999 && most >= least && most <= 999);
        state(rules.size() < 8);
        Told told = new Told();
        told.rank = rank;
        told.object = object;
        told.least = least;
        told.most = most;
        rules.add(told);
        return rules.size() - 1;
    }

    int tighten(int rule, int least, int most) {
        index(rule, rules.size());
        Told told = rules.get(rule);
        argument(least >= told.least && most <= told.most && most >= least);
        List<Made> free = new ArrayList<>(versions);
        free.removeIf(made -> !breaks(made, true).isEmpty());
        told.least = least;
        told.most = most;
        free.removeIf(made -> breaks(made, true).isEmpty());
        return free.size();
    }

    int waive(int rule, int slide, int until) {
        index(rule, rules.size());
        index(slide, slides);
        argument(until >= today && until <= 999);
        state(rules.get(rule).rank == 1 && waivers.size() < 12);
        waivers.add(new Waived(rule, slide, until));
        return waivers.size() - 1;
    }

    int blocks(int version) {
        index(version, versions.size());
        return breaks(versions.get(version), true).size();
    }

    int warnings(int version) {
        index(version, versions.size());
        return breaks(versions.get(version), false).size();
    }

    int firstBlock(int version) {
        index(version, versions.size());
        List<Integer> blocking = breaks(versions.get(version), true);
        for (int slide : versions.get(version).order) {
            if (blocking.contains(slide)) {
                return slide;
            }
        }
        return NONE;
    }

    int show(int branch) {
        index(branch, heads.size());
        state(breaks(headOf(branch), true).isEmpty());
        shows.set(branch, heads.get(branch));
        return heads.get(branch);
    }

    int shown(int branch) {
        index(branch, heads.size());
        int version = shows.get(branch);
        return version != NONE && blocks(version) == 0 ? version : NONE;
    }

    int pass(int days) {
        argument(days >= 1 && days <= 100);
        state(today + days <= 999);
        today += days;
        return today;
    }

    private static void index(int number, int bound) {
        if (number < 0 || number >= bound) {
            throw new IndexOutOfBoundsException();
        }
    }

    private static void argument(boolean right) {
        if (!right) {
            throw new IllegalArgumentException();
        }
    }

    private static void state(boolean right) {
        if (!right) {
            throw new IllegalStateException();
        }
    }

    private Made headOf(int branch) {
        return versions.get(heads.get(branch));
    }

    private int push(Made made) {
        versions.add(made);
        heads.set(made.branch, versions.size() - 1);
        return versions.size() - 1;
    }

    private TreeSet<Integer> ancestors(int version) {
        TreeSet<Integer> found = new TreeSet<>();
        List<Integer> open = new ArrayList<>(List.of(version));
        while (!open.isEmpty()) {
            int next = open.remove(open.size() - 1);
            if (next != NONE && found.add(next)) {
                open.add(versions.get(next).first);
                open.add(versions.get(next).second);
            }
        }
        return found;
    }

    private int commonAncestor(int into, int from) {
        TreeSet<Integer> common = ancestors(heads.get(into));
        common.retainAll(ancestors(heads.get(from)));
        return common.last();
    }

    private Fate fate(int into, int from, int slide, int settled) {
        int[] old = versions.get(commonAncestor(into, from)).slides.get(slide);
        int[] ours = headOf(into).slides.get(slide);
        int[] theirs = headOf(from).slides.get(slide);
        int[] told = settled == 1 ? theirs : ours;
        if (ours != null && theirs != null) {
            return fateOfObjects(old, ours, theirs, told);
        }
        int[] one = ours != null ? ours : theirs;
        if (one == null || old == null) {
            return new Fate(one, 0);
        }
        return Arrays.equals(one, old) ? new Fate(null, 0) : new Fate(told, 1);
    }

    private static Fate fateOfObjects(int[] old, int[] ours, int[] theirs, int[] told) {
        int[] result = new int[4];
        int clashes = 0;
        for (int object = 0; object < 4; object++) {
            boolean oursDiffers = old == null || ours[object] != old[object];
            boolean theirsDiffers = old == null || theirs[object] != old[object];
            if (ours[object] == theirs[object]) {
                result[object] = ours[object];
            } else if (oursDiffers && theirsDiffers) {
                result[object] = told[object];
                clashes++;
            } else {
                result[object] = oursDiffers ? ours[object] : theirs[object];
            }
        }
        return new Fate(result, clashes);
    }

    /** The slides of the breaks that block, or of those that warn, one for each break. */
    private List<Integer> breaks(Made made, boolean blocking) {
        List<Integer> found = new ArrayList<>();
        made.slides.forEach((slide, objects) -> {
            for (int rule = 0; rule < rules.size(); rule++) {
                Told told = rules.get(rule);
                int value = objects[told.object];
                boolean broken = value != 0 && (value < told.least || value > told.most);
                boolean counts = blocking
                        ? told.rank == 0 || told.rank == 1 && !waivedToday(rule, slide)
                        : told.rank == 2;
                if (broken && counts) {
                    found.add(slide);
                }
            }
        });
        return found;
    }

    private boolean waivedToday(int rule, int slide) {
        return waivers.stream().anyMatch(
                waiver -> waiver.rule == rule && waiver.slide == slide && today <= waiver.until);
    }
}
