import java.math.BigInteger;
import java.util.ArrayList;
import java.util.List;

/**
 * The document once more, written down as plainly as can be and with nothing of the program's shape:
 * words really move between FRAMES and SECTORS, and where a BLOCK lies is looked for each time.
 */
final class PlainModel {
    private static final int NOBODY = -1;

    /** A FRAME or a SECTOR. */
    private static final class Place {
        int job = NOBODY;
        int block = NOBODY;
        boolean locked;
        int t;
        int bigT;
        final long[] words = new long[16];

        boolean isFree() {
            return job == NOBODY;
        }

        boolean has(int j, int k) {
            return job == j && block == k;
        }

        void take(int j, int k) {
            job = j;
            block = k;
        }

        void clear() {
            job = NOBODY;
            block = NOBODY;
            locked = false;
            t = 0;
            bigT = 0;
            java.util.Arrays.fill(words, 0);
        }
    }

    private static final class Transfer {
        final boolean write;
        final int frame;
        int sector;
        int end;

        Transfer(boolean write, int frame, int sector) {
            this.write = write;
            this.frame = frame;
            this.sector = sector;
        }
    }

    private static final class Task {
        int limit;
        List<Integer> tape;
        final List<Integer> print = new ArrayList<>();
        long acc;
        final int[] b = new int[128];
        int control;
        int done;
        int ended;
        /** 0: it does not wait; 1: for the BLOCK waitBlock; 2: for a free FRAME, for the sake of that BLOCK. */
        int waiting;
        int waitBlock;
        final boolean[] used = new boolean[64];
        final int[] victimAt = new int[64];
    }

    private final List<Long> trayWords = new ArrayList<>();
    private List<Integer> trayTape = new ArrayList<>();
    private final List<Place> frames = new ArrayList<>();
    private final List<Place> sectors = new ArrayList<>();
    private final List<Task> tasks = new ArrayList<>();
    private final List<Transfer> asked = new ArrayList<>();
    private Transfer under;
    private int c;
    private int hand = -1;
    private int reads;
    private int writes;
    private int misses;
    private int idle;
    private int rounds;
    private int orders;

    PlainModel() {
        setFrames(7);
        for (int d = 0; d < 64; d++) {
            sectors.add(new Place());
        }
    }

    private void setFrames(int f) {
        frames.clear();
        for (int i = 0; i < f; i++) {
            frames.add(new Place());
        }
    }

    int frames(int f) {
        if (f < 3 || f > 17 || !tasks.isEmpty()) {
            return -1;
        }
        setFrames(f);
        return f;
    }

    int words(long... five) {
        if (trayWords.size() + 5 > 1000) {
            return -1;
        }
        for (long w : five) {
            trayWords.add(wrap(w, 48));
        }
        return trayWords.size();
    }

    int bytes(long a, long b, long cc, long d, int n) {
        if (n < 0 || n > 32 || trayTape.size() + n > 2000) {
            return -1;
        }
        byte[] all = java.nio.ByteBuffer.allocate(32).putLong(a).putLong(b).putLong(cc).putLong(d).array();
        for (int i = 0; i < n; i++) {
            trayTape.add(all[i] & 255);
        }
        return trayTape.size();
    }

    int job(int limit, int n) {
        int blocks = n / 16 + (n % 16 == 0 ? 0 : 1);
        if (tasks.size() == 12 || limit < 1 || limit > 10000 || n < 1 || n > trayWords.size()
                || existing() + blocks > 64) {
            return -1;
        }
        Task task = new Task();
        task.limit = limit;
        task.tape = trayTape;
        java.util.Arrays.fill(task.victimAt, -1);
        trayTape = new ArrayList<>();
        int j = tasks.size();
        tasks.add(task);
        for (int i = 0; i < n; i++) {
            if (i % 16 == 0) {
                for (Place sector : sectors) {
                    if (sector.isFree()) {
                        sector.take(j, i / 16);
                        break;
                    }
                }
            }
            placeOf(j, i / 16).words[i % 16] = trayWords.get(i);
        }
        trayWords.clear();
        return j;
    }

    int run(int ticks) {
        if (ticks < 0 || ticks > 20000) {
            return -1;
        }
        for (int i = 0; i < ticks && unended() > 0; i++) {
            tick();
        }
        return unended();
    }

    int ended(int j) {
        return isJob(j) ? tasks.get(j).ended : -1;
    }

    int done(int j) {
        return isJob(j) ? tasks.get(j).done : -1;
    }

    int printed(int j) {
        return isJob(j) ? tasks.get(j).print.size() : -1;
    }

    int out(int j, int i) {
        return isJob(j) && i >= 0 && i < printed(j) ? tasks.get(j).print.get(i) : -1;
    }

    long register(int j, int what) {
        if (!isJob(j) || what < -1 || what > 128) {
            return 0;
        }
        Task task = tasks.get(j);
        return what == -1 ? task.acc : what == 128 ? task.control : task.b[what];
    }

    long word(int j, int address) {
        if (!isJob(j) || tasks.get(j).ended != 0 || address < 0 || address > 1023) {
            return 0;
        }
        Place place = placeOf(j, address / 16);
        return place == null ? 0 : place.words[address % 16];
    }

    int clock() {
        return c;
    }

    int told(int what) {
        int[] all = {reads, writes, misses, idle, rounds, existing(), actives().size(), hand};
        return what < 0 || what > 7 ? 0 : all[what];
    }

    int frame(int f, int what) {
        if (f < 0 || f >= frames.size() || what < 0 || what > 4) {
            return -1;
        }
        Place p = frames.get(f);
        boolean told = !p.isFree() && !p.locked;
        int[] all = {p.job, p.block, p.locked ? 1 : 0, told ? p.t : 0, told ? p.bigT : 0};
        return all[what];
    }

    int sector(int d) {
        return d < 0 || d > 63 || sectors.get(d).isFree() ? -1 : 1000 * sectors.get(d).job + sectors.get(d).block;
    }

    long digest() {
        List<Long> x = new ArrayList<>();
        for (int j = 0; j < tasks.size(); j++) {
            Task task = tasks.get(j);
            x.add((long) task.done);
            x.add((long) task.ended);
            x.add((long) task.print.size());
            task.print.forEach(b -> x.add((long) b));
            x.add(task.acc);
            for (int i = 0; task.ended == 0 && i < 1024; i++) {
                x.add(word(j, i));
            }
        }
        x.add((long) c);
        for (int what = 0; what < 8; what++) {
            x.add((long) told(what));
        }
        for (int f = 0; f < frames.size(); f++) {
            for (int what = 0; what < 5; what++) {
                x.add((long) frame(f, what));
            }
        }
        long d = 7;
        for (long one : x) {
            d = d * 31 + one;
        }
        return d;
    }

    private boolean isJob(int j) {
        return j >= 0 && j < tasks.size();
    }

    private static long wrap(long value, int bits) {
        long modulus = 1L << bits;
        long rest = Math.floorMod(value, modulus);
        return rest >= modulus / 2 ? rest - modulus : rest;
    }

    private int unended() {
        return (int) tasks.stream().filter(t -> t.ended == 0).count();
    }

    private List<Integer> actives() {
        List<Integer> all = new ArrayList<>();
        for (int j = 0; j < tasks.size() && all.size() < (frames.size() - 1) / 2; j++) {
            if (tasks.get(j).ended == 0) {
                all.add(j);
            }
        }
        return all;
    }

    private Place frameOf(int j, int k) {
        return find(frames, j, k);
    }

    private Place placeOf(int j, int k) {
        Place frame = frameOf(j, k);
        // The words of a BLOCK that is to be read stand on its SECTOR till then.
        return frame != null && !(frame.locked && isToBeRead(frame)) ? frame : find(sectors, j, k);
    }

    private static Place find(List<Place> places, int j, int k) {
        for (Place place : places) {
            if (place.has(j, k)) {
                return place;
            }
        }
        return null;
    }

    private boolean isToBeRead(Place frame) {
        return asked.stream().anyMatch(t -> !t.write && frames.get(t.frame) == frame);
    }

    private int existing() {
        int n = 0;
        for (int j = 0; j < tasks.size(); j++) {
            for (int k = 0; k < 64; k++) {
                n += placeOf(j, k) == null ? 0 : 1;
            }
        }
        return n;
    }

    private int lowestFree() {
        for (int f = 0; f < frames.size(); f++) {
            if (frames.get(f).isFree()) {
                return f;
            }
        }
        return -1;
    }

    private void tick() {
        if (under != null && under.end == c) {
            endTransfer();
        }
        boolean writing = under != null && under.write || asked.stream().anyMatch(t -> t.write);
        if (lowestFree() < 0 && !writing) {
            int f = victim();
            if (f >= 0) {
                Place p = frames.get(f);
                p.locked = true;
                tasks.get(p.job).victimAt[p.block] = rounds;
                asked.add(new Transfer(true, f, -1));
            }
        }
        if (under == null && !asked.isEmpty()) {
            beginTransfer(asked.remove(0));
        }
        int before = orders;
        work();
        if (orders > before && orders % 16 == 0) {
            round();
        }
        c++;
    }

    private void endTransfer() {
        Place frame = frames.get(under.frame);
        Place sector = under.write ? sectors.get(under.sector) : null;
        Task task = tasks.get(frame.job);
        if (!under.write) {
            frame.locked = false;
            frame.t = 0;
            int at = task.victimAt[frame.block];
            frame.bigT = at < 0 ? 0 : rounds - at;
        } else {
            System.arraycopy(frame.words, 0, sector.words, 0, 16);
            frame.clear();
            if (task.ended != 0) {
                sector.clear();
            }
        }
        under = null;
    }

    private void beginTransfer(Transfer next) {
        Place frame = frames.get(next.frame);
        if (next.write) {
            for (int s = c; next.sector < 0; s++) {
                for (int d = 0; d < 64 && next.sector < 0; d++) {
                    if (s % 32 == 2 * (d % 16) && sectors.get(d).isFree()) {
                        next.sector = d;
                        next.end = s + 2;
                    }
                }
            }
            sectors.get(next.sector).take(frame.job, frame.block);
            writes++;
        } else {
            int s = c;
            while (s % 32 != 2 * (next.sector % 16)) {
                s++;
            }
            next.end = s + 2;
            System.arraycopy(sectors.get(next.sector).words, 0, frame.words, 0, 16);
            sectors.get(next.sector).clear();
            reads++;
        }
        under = next;
    }

    private int victim() {
        List<Integer> may = new ArrayList<>();
        for (int f = 0; f < frames.size(); f++) {
            Place p = frames.get(f);
            if (!p.isFree() && !p.locked && !isWanted(p.job, p.block)) {
                may.add(f);
            }
        }
        for (int f : may) {
            if (frames.get(f).t > frames.get(f).bigT + 1) {
                return f;
            }
        }
        int best = -1;
        for (int f : may) {
            Place p = frames.get(f);
            if (p.t > 0 && (best < 0 || p.bigT - p.t > frames.get(best).bigT - frames.get(best).t)) {
                best = f;
            }
        }
        if (best >= 0) {
            return best;
        }
        for (int f : may) {
            if (best < 0 || frames.get(f).bigT > frames.get(best).bigT) {
                best = f;
            }
        }
        return best;
    }

    private boolean isWanted(int j, int k) {
        Task task = tasks.get(j);
        return actives().contains(j)
                && (Math.floorDiv(task.control, 16) == k || task.waiting == 1 && task.waitBlock == k);
    }

    private boolean isReady(int j) {
        Task task = tasks.get(j);
        if (task.waiting == 0) {
            return true;
        }
        if (task.waiting == 2) {
            return lowestFree() >= 0;
        }
        Place frame = frameOf(j, task.waitBlock);
        return frame == null || !frame.locked;
    }

    private void work() {
        List<Integer> actives = actives();
        int next = -1;
        if (hand >= 0 && actives.contains(hand) && isReady(hand)) {
            next = hand;
        }
        for (int i = 1; i <= tasks.size() && next < 0; i++) {
            int j = (hand + i) % tasks.size();
            if (actives.contains(j) && isReady(j)) {
                next = j;
            }
        }
        if (next < 0) {
            idle++;
            return;
        }
        hand = next;
        Task task = tasks.get(next);
        task.waiting = 0;
        int how = instruct(next, task);
        if (how < 0) {
            misses++;
        }
        if (how > 0) {
            end(next, task, how);
        }
    }

    private void end(int j, Task task, int how) {
        task.ended = how;
        for (int f = 0; f < frames.size(); f++) {
            int here = f;
            if (frames.get(f).job == j && !(under != null && under.frame == f)) {
                asked.removeIf(t -> t.frame == here);
                frames.get(f).clear();
            }
        }
        for (int d = 0; d < 64; d++) {
            if (sectors.get(d).job == j && !(under != null && under.write && under.sector == d)) {
                sectors.get(d).clear();
            }
        }
    }

    /** 0 if the BLOCK is there, -1 if that is a MISS, else how the job ends. */
    private int need(int j, Task task, int address) {
        if (address < 0 || address > 1023) {
            return 4;
        }
        int k = address / 16;
        if (placeOf(j, k) == null && existing() >= 64) {
            return 5;
        }
        Place frame = frameOf(j, k);
        if (frame != null && !frame.locked) {
            return 0;
        }
        task.waitBlock = k;
        if (frame != null) {
            task.waiting = 1;
            return -1;
        }
        int f = lowestFree();
        if (f < 0) {
            task.waiting = 2;
            return -1;
        }
        frames.get(f).clear();
        boolean exists = placeOf(j, k) != null;
        frames.get(f).take(j, k);
        if (!exists) {
            return 0;
        }
        for (int d = 0; d < 64; d++) {
            if (sectors.get(d).has(j, k)) {
                asked.add(new Transfer(false, f, d));
            }
        }
        frames.get(f).locked = true;
        task.waiting = 1;
        return -1;
    }

    private int instruct(int j, Task task) {
        if (task.done == task.limit) {
            return 2;
        }
        int at = task.control;
        int how = need(j, task, at);
        if (how != 0) {
            return how;
        }
        String bits = String.format("%48s", Long.toBinaryString(word(j, at) & 0xffffffffffffL)).replace(' ', '0');
        int f = Integer.parseInt(bits.substring(0, 10), 2);
        int a = Integer.parseInt(bits.substring(10, 17), 2);
        int m = Integer.parseInt(bits.substring(17, 24), 2);
        int n = Integer.parseInt(bits.substring(24), 2);
        if (!List.of(1, 2, 3, 4, 5, 6, 7, 8, 9, 10, 11, 12, 16, 17, 18, 19, 20, 21, 22, 23, 24, 25, 26, 27, 28, 29,
                32, 33, 34, 64, 65, 66, 67, 68).contains(f)) {
            return 3;
        }
        int s = (int) wrap((long) n + task.b[m] + (f < 16 ? 0 : task.b[a]), 24);
        boolean word = List.of(4, 5, 16, 17, 18, 19, 20, 21, 22, 64, 65).contains(f);
        if (word) {
            how = need(j, task, s);
            if (how != 0) {
                return how;
            }
        }
        how = obey(j, task, f, a, s);
        if (how <= 1) {
            task.done++;
            orders++;
            task.used[at / 16] = true;
            if (word) {
                task.used[s / 16] = true;
            }
        }
        return how;
    }

    private int obey(int j, Task task, int f, int a, int s) {
        long w = word(j, s);
        int old = task.b[a];
        boolean go = false;
        int to = old;
        long acc = task.acc;
        switch (f) {
            case 1 -> to = s;
            case 2 -> to = old + s;
            case 3 -> to = old - s;
            case 4 -> to = (int) (w & 0xffffff);
            case 5 -> store(j, s, old);
            case 6 -> go = old == 0;
            case 7 -> go = old != 0;
            case 8 -> go = old >= 0;
            case 9 -> go = old < 0;
            case 10 -> {
                to = old - 1;
                go = a != 0 && wrap(to, 24) != 0;
            }
            case 11 -> to = (int) (acc & 0xffffff);
            case 12 -> acc = old;
            case 16 -> acc = w;
            case 17 -> acc = -w;
            case 18 -> acc += w;
            case 19 -> acc -= w;
            case 20 -> store(j, s, acc);
            case 21 -> acc = BigInteger.valueOf(acc).multiply(BigInteger.valueOf(w)).mod(BigInteger.ONE.shiftLeft(48)).longValue();
            case 22 -> acc &= w;
            case 23 -> acc = s;
            case 24 -> go = acc == 0;
            case 25 -> go = acc != 0;
            case 26 -> go = acc >= 0;
            case 27 -> go = acc < 0;
            case 28 -> acc = Math.floorDiv(acc, 2);
            case 29 -> go = true;
            case 32 -> {
                if (task.print.size() == 400) {
                    return 7;
                }
                task.print.add((int) Math.floorMod(acc, 256L));
            }
            case 33 -> acc = task.tape.isEmpty() ? -1 : task.tape.remove(0);
            case 64, 65 -> {
                long least = -(1L << 47);
                if (w == 0 || w == least || acc == least) {
                    return 6;
                }
                BigInteger[] both = BigInteger.valueOf(acc).divideAndRemainder(BigInteger.valueOf(w));
                acc = both[f - 64].longValue();
            }
            case 66 -> {
                for (char ch : (acc + "\n").toCharArray()) {
                    if (task.print.size() == 400) {
                        return 7;
                    }
                    task.print.add((int) ch);
                }
            }
            case 67 -> acc = read(task.tape);
            case 68 -> {
                if (acc < 0) {
                    return 6;
                }
                acc = BigInteger.valueOf(acc).sqrt().longValue();
            }
            default -> {
            }
        }
        task.b[a] = a == 0 ? 0 : (int) wrap(to, 24);
        task.acc = wrap(acc, 48);
        task.control = go ? s : task.control + 1;
        return f == 34 ? 1 : 0;
    }

    private void store(int j, int address, long value) {
        frameOf(j, address / 16).words[address % 16] = value;
    }

    private static long read(List<Integer> tape) {
        while (!tape.isEmpty() && (tape.get(0) == 32 || tape.get(0) == 10)) {
            tape.remove(0);
        }
        StringBuilder digits = new StringBuilder("0");
        boolean minus = !tape.isEmpty() && tape.get(0) == '-';
        if (minus) {
            tape.remove(0);
        }
        while (!tape.isEmpty() && tape.get(0) >= '0' && tape.get(0) <= '9') {
            digits.append((char) (int) tape.remove(0));
        }
        if (!tape.isEmpty()) {
            tape.remove(0);
        }
        BigInteger value = new BigInteger(digits.toString());
        return (minus ? value.negate() : value).mod(BigInteger.ONE.shiftLeft(48)).longValue();
    }

    private void round() {
        for (Place p : frames) {
            if (p.isFree() || p.locked) {
                continue;
            }
            if (tasks.get(p.job).used[p.block]) {
                if (p.t > 0) {
                    p.bigT = p.t;
                }
                p.t = 0;
            } else {
                p.t++;
            }
        }
        rounds++;
        for (Task task : tasks) {
            java.util.Arrays.fill(task.used, false);
        }
    }
}
