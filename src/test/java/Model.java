import java.util.ArrayList;
import java.util.Comparator;
import java.util.List;
import java.util.Map;
import java.util.NoSuchElementException;
import java.util.Optional;
import java.util.TreeMap;

/** The document written a second time, with lists and streams, for RandomRunsTest to set the class against. */
final class Model {
    private static final class Job {
        int number;
        int due;
        int zone;
        int seconds;
        int carrier;
        boolean late;
        boolean done;
        final Map<Integer, Integer> lines = new TreeMap<>();
    }

    private static final class Batch {
        final List<Job> jobs = new ArrayList<>();
        boolean released;
    }

    private record Hour(int carrier, int from, int to) {
    }

    private final int capacity;
    private final List<Job> jobs = new ArrayList<>();
    private List<Batch> batches = new ArrayList<>();
    private final List<Hour> hours = new ArrayList<>();
    private final int[] stock = new int[10];

    Model(int capacity) {
        this.capacity = capacity < 0 ? 0 : capacity > 65536 ? 65536 : capacity;
    }

    int order(int due, int zone, int seconds) {
        range(due >= 0 && due <= 100000 && zone >= 0 && zone <= 7 && seconds >= 1 && seconds <= 10000);
        room(jobs.size() < 16);
        Job j = new Job();
        j.number = jobs.size();
        j.due = due;
        j.zone = zone;
        j.seconds = seconds;
        jobs.add(j);
        return j.number;
    }

    int line(int order, int good, int n) {
        Job j = job(order);
        range(good >= 0 && good <= 9 && n >= 1 && n <= 100);
        now(isFree(j) && !j.lines.containsKey(good));
        room(j.lines.size() < 4);
        j.lines.put(good, n);
        return j.lines.size();
    }

    int carrier(int order, int carrier) {
        Job j = job(order);
        range(carrier >= 0 && carrier <= 3);
        now(isFree(j));
        j.carrier = carrier;
        return 0;
    }

    int hour(int carrier, int from, int to) {
        range(carrier >= 0 && carrier <= 3 && from >= 0 && from <= 100000 && to >= 0 && to <= 100000 && from <= to);
        room(hours.size() < 10);
        hours.add(new Hour(carrier, from, to));
        return (int) hours.stream().filter(h -> h.carrier() == carrier).count();
    }

    int stock(int good, int n) {
        range(good >= 0 && good <= 9 && n >= 0 && n <= 10000);
        stock[good] = n;
        return 0;
    }

    int plan() {
        List<Batch> made = new ArrayList<>();
        List<Job> open = new ArrayList<>(jobs.stream().filter(j -> isFree(j) && fits(j)).toList());
        open.sort(Comparator.<Job>comparingInt(j -> j.due).thenComparingInt(j -> j.number));
        for (Job first : List.copyOf(open)) {
            if (!open.contains(first) || first.seconds > capacity) {
                continue;
            }
            Batch b = new Batch();
            b.jobs.add(first);
            open.remove(first);
            for (Optional<Job> next = nextFor(b, open); next.isPresent(); next = nextFor(b, open)) {
                b.jobs.add(next.get());
                open.remove(next.get());
            }
            made.add(b);
        }
        room(batches.size() + made.size() <= 16);
        batches.addAll(made);
        return made.stream().mapToInt(b -> saved(b.jobs)).sum();
    }

    private Optional<Job> nextFor(Batch b, List<Job> open) {
        return open.stream()
            .filter(j -> j.carrier == b.jobs.get(0).carrier && seconds(with(b.jobs, List.of(j))) <= capacity)
            .min(Comparator.<Job>comparingInt(j -> -greatest(j, b.jobs)).thenComparingInt(j -> j.due).thenComparingInt(j -> j.number));
    }

    int wave(int order) {
        Job j = job(order);
        return j.late ? -1 : waveOf(j);
    }

    int told(int wave, int what) {
        Batch b = batch(wave);
        range(what >= 0 && what <= 6);
        return switch (what) {
            case 0 -> seconds(b.jobs);
            case 1 -> saved(b.jobs);
            case 2 -> b.jobs.size();
            case 3 -> b.jobs.stream().mapToInt(j -> j.due).min().getAsInt();
            case 4 -> b.jobs.get(0).carrier;
            case 5 -> b.released ? 1 : 0;
            default -> (int) b.jobs.stream().filter(j -> j.done).count();
        };
    }

    int member(int wave, int i) {
        Batch b = batch(wave);
        there(i >= 0 && i < b.jobs.size());
        return b.jobs.get(i).number;
    }

    int replenish(int wave, int i) {
        Batch b = batch(wave);
        range(i >= 0);
        List<Integer> goods = lackedGoods(b);
        return i < goods.size() ? goods.get(i) : -1;
    }

    int lacks(int wave, int good) {
        Batch b = batch(wave);
        range(good >= 0 && good <= 9);
        return lack(b, good);
    }

    int release(int wave) {
        Batch b = batch(wave);
        now(!b.released);
        if (!b.jobs.stream().allMatch(this::fits)) {
            return 1;
        }
        if (!lackedGoods(b).isEmpty()) {
            return 2;
        }
        b.released = true;
        return 0;
    }

    int done(int order) {
        Job j = job(order);
        now(waveOf(j) > 0 && batches.get(waveOf(j) - 1).released && !j.done);
        j.done = true;
        j.lines.forEach((good, n) -> stock[good] = stock[good] > n ? stock[good] - n : 0);
        return (int) batches.get(waveOf(j) - 1).jobs.stream().filter(other -> !other.done).count();
    }

    int change(int order, int due) {
        Job j = job(order);
        range(due >= 0 && due <= 100000);
        now(!j.late && !j.done);
        j.due = due;
        if (waveOf(j) == 0 || batches.get(waveOf(j) - 1).released || fits(j)) {
            return 0;
        }
        batches.get(waveOf(j) - 1).jobs.remove(j);
        return 1;
    }

    int join(int wave, int other) {
        Batch a = batch(wave);
        Batch b = batch(other);
        now(a != b && !a.released && !b.released && a.jobs.get(0).carrier == b.jobs.get(0).carrier);
        now(seconds(with(a.jobs, b.jobs)) <= capacity);
        a.jobs.addAll(b.jobs);
        b.jobs.clear();
        return seconds(a.jobs);
    }

    int cutoff(int carrier, int time) {
        range(carrier >= 0 && carrier <= 3 && time >= 0 && time <= 100000);
        List<Job> left = jobs.stream().filter(j -> j.carrier == carrier && j.due <= time && !j.late)
            .filter(j -> waveOf(j) == 0 || !batches.get(waveOf(j) - 1).released).toList();
        left.forEach(j -> j.late = true);
        batches.forEach(b -> b.jobs.removeAll(left));
        return left.size();
    }

    int late(int i) {
        range(i >= 0);
        return jobs.stream().filter(j -> j.late).skip(i).findFirst().map(j -> j.number).orElse(-1);
    }

    int count(int what) {
        return switch (what) {
            case 0 -> jobs.size();
            case 1 -> (int) batches.stream().filter(b -> !b.jobs.isEmpty()).count();
            case 2 -> (int) jobs.stream().filter(this::isFree).count();
            case 3 -> (int) jobs.stream().filter(j -> j.late).count();
            case 4 -> (int) jobs.stream().filter(j -> j.done).count();
            case 5 -> batches.stream().mapToInt(b -> saved(b.jobs)).sum();
            case 6 -> capacity;
            default -> -1;
        };
    }

    private boolean isFree(Job j) {
        return !j.late && waveOf(j) == 0;
    }

    private int waveOf(Job j) {
        for (Batch b : batches) {
            if (b.jobs.contains(j)) {
                return batches.indexOf(b) + 1;
            }
        }
        return 0;
    }

    private boolean fits(Job j) {
        return hours.stream().anyMatch(h -> h.carrier() == j.carrier && h.from() <= j.due && j.due <= h.to());
    }

    private static List<Job> with(List<Job> some, List<Job> more) {
        List<Job> all = new ArrayList<>(some);
        all.addAll(more);
        return all;
    }

    private static int saving(Job a, Job b) {
        int byZone = a.zone == b.zone ? 10 : a.zone == b.zone + 1 || b.zone == a.zone + 1 ? 5 : 0;
        int byGoods = 3 * (int) a.lines.keySet().stream().filter(b.lines::containsKey).count();
        return List.of(byZone + byGoods, a.seconds, b.seconds).stream().min(Integer::compare).get();
    }

    private static int greatest(Job j, List<Job> before) {
        return before.stream().mapToInt(b -> saving(j, b)).max().orElse(0);
    }

    private static int saved(List<Job> all) {
        int sum = 0;
        for (int i = 0; i < all.size(); i++) {
            sum += greatest(all.get(i), all.subList(0, i));
        }
        return sum;
    }

    private static int seconds(List<Job> all) {
        return all.stream().mapToInt(j -> j.seconds).sum() - saved(all);
    }

    private static int wanted(Batch b, int good) {
        return b.jobs.stream().filter(j -> !j.done).mapToInt(j -> j.lines.getOrDefault(good, 0)).sum();
    }

    private int lack(Batch b, int good) {
        int taken = batches.stream().filter(o -> o != b && o.released).mapToInt(o -> wanted(o, good)).sum();
        int left = taken > stock[good] ? 0 : stock[good] - taken;
        return wanted(b, good) > left ? wanted(b, good) - left : 0;
    }

    private List<Integer> lackedGoods(Batch b) {
        List<Integer> goods = new ArrayList<>();
        for (int good = 0; good < 10; good++) {
            if (lack(b, good) > 0) {
                goods.add(good);
            }
        }
        return goods;
    }

    private Job job(int order) {
        there(order >= 0 && order < jobs.size());
        return jobs.get(order);
    }

    private Batch batch(int wave) {
        there(wave >= 1 && wave <= batches.size() && !batches.get(wave - 1).jobs.isEmpty());
        return batches.get(wave - 1);
    }

    private static void there(boolean holds) {
        if (!holds) {
            throw new NoSuchElementException();
        }
    }

    private static void range(boolean holds) {
        if (!holds) {
            throw new IllegalArgumentException();
        }
    }

    private static void now(boolean holds) {
        if (!holds) {
            throw new IllegalStateException();
        }
    }

    private static void room(boolean holds) {
        if (!holds) {
            throw new UnsupportedOperationException();
        }
    }
}
