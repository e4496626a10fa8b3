/**
 * A machine with a one-level store: the blocks of its jobs lie in a few frames of core or on a drum,
 * and it learns which of them will not be wanted. Upper-case words in comments are the document's terms.
 */
public final class DrumMachine {
    private static final int MOST_JOBS = 12;
    private static final int MOST_LIMIT = 10000;
    private static final int MOST_TICKS = 20000;
    private static final int MOST_BLOCKS = 64;
    private static final int LEAST_FRAMES = 3;
    private static final int MOST_FRAMES = 17;
    private static final int FIRST_FRAMES = 7;
    private static final int SECTORS = 64;
    private static final int SECTORS_ROUND = 16;
    private static final int DRUM_TURN = 32;
    private static final int STORE_WORDS = 1024;
    private static final int BLOCK_WORDS = 16;
    private static final int STORE_BLOCKS = STORE_WORDS / BLOCK_WORDS;
    private static final int B_REGISTERS = 128;
    private static final int MOST_PRINTED = 400;
    private static final int MOST_TRAY_WORDS = 1000;
    private static final int MOST_TRAY_BYTES = 2000;
    private static final int ROUND_ORDERS = 16;

    private static final int NONE = -1;

    /** What became of an INSTRUCTION: DONE, MISSED, or one of the ways in which a job ENDS. */
    private static final int MISSED = -1;
    private static final int DONE = 0;
    private static final int END_ORDER = 1;
    private static final int END_LIMIT = 2;
    private static final int END_FUNCTION = 3;
    private static final int END_ADDRESS = 4;
    private static final int END_STORE = 5;
    private static final int END_NUMBER = 6;
    private static final int END_PRINT = 7;

    private final Tray tray = new Tray();
    private final Core core = new Core();
    private final Drum drum = new Drum();
    private final Job[] jobs = new Job[MOST_JOBS];
    private int taken = 0;
    private int unended = 0;
    private int existing = 0;
    private int inHand = NONE;
    private int now = 0;
    private int misses = 0;
    private int idleTicks = 0;
    private int ordersDone = 0;

    public DrumMachine() {
    }

    public int frames(int f) {
        if (f < LEAST_FRAMES || f > MOST_FRAMES || taken > 0) {
            return -1;
        }
        core.resize(f);
        return f;
    }

    public int words(long a, long b, long c, long d, long e) {
        if (!tray.hasRoomForWords(5)) {
            return -1;
        }
        tray.addWord(a);
        tray.addWord(b);
        tray.addWord(c);
        tray.addWord(d);
        tray.addWord(e);
        return tray.wordCount;
    }

    public int bytes(long a, long b, long c, long d, int n) {
        if (n < 0 || n > 32 || !tray.hasRoomForBytes(n)) {
            return -1;
        }
        tray.addBytes(a, n);
        tray.addBytes(b, n - 8);
        tray.addBytes(c, n - 16);
        tray.addBytes(d, n - 24);
        return tray.byteCount;
    }

    public int job(int limit, int n) {
        if (taken >= MOST_JOBS || limit < 1 || limit > MOST_LIMIT || n < 1 || n > tray.wordCount) {
            return -1;
        }
        int blocks = (n + BLOCK_WORDS - 1) / BLOCK_WORDS;
        if (existing + blocks > MOST_BLOCKS) {
            return -1;
        }
        Job fresh = new Job(taken, limit, tray, n);
        tray.empty();
        for (int k = 0; k < blocks; k++) {
            drum.load(createBlock(fresh, k));
        }
        jobs[taken] = fresh;
        taken++;
        unended++;
        activate();
        return fresh.number;
    }

    public int run(int ticks) {
        if (ticks < 0 || ticks > MOST_TICKS) {
            return -1;
        }
        for (int i = 0; i < ticks && unended > 0; i++) {
            tick();
        }
        return unended;
    }

    public int ended(int j) {
        Job asked = find(j);
        return asked == null ? -1 : asked.end;
    }

    public int done(int j) {
        Job asked = find(j);
        return asked == null ? -1 : asked.ordersDone;
    }

    public int printed(int j) {
        Job asked = find(j);
        return asked == null ? -1 : asked.printCount;
    }

    public int out(int j, int i) {
        Job asked = find(j);
        return asked == null ? -1 : asked.printedByte(i);
    }

    public long register(int j, int what) {
        Job asked = find(j);
        if (asked == null) {
            return 0;
        }
        if (what == -1) {
            return asked.accumulator;
        }
        return what == B_REGISTERS ? asked.control : asked.index(what);
    }

    public long word(int j, int address) {
        Job asked = find(j);
        return asked == null || asked.end != 0 ? 0 : asked.load(address);
    }

    public int clock() {
        return now;
    }

    public int told(int what) {
        switch (what) {
            case 0:
                return drum.reads;
            case 1:
                return drum.writes;
            case 2:
                return misses;
            case 3:
                return idleTicks;
            case 4:
                return core.rounds;
            case 5:
                return existing;
            case 6:
                return Math.min(unended, core.mostActive());
            case 7:
                return inHand;
            default:
                return 0;
        }
    }

    public int frame(int f, int what) {
        if (f < 0 || f >= core.size || what < 0 || what > 4) {
            return -1;
        }
        Block block = core.blockIn(f);
        if (block == null) {
            return what < 2 ? -1 : 0;
        }
        switch (what) {
            case 0:
                return block.owner.number;
            case 1:
                return block.number;
            case 2:
                return block.locked ? 1 : 0;
            case 3:
                return block.locked ? 0 : block.unusedRounds;
            default:
                return block.locked ? 0 : block.lastPause;
        }
    }

    public int sector(int d) {
        Block block = drum.blockOn(d);
        return block == null ? -1 : 1000 * block.owner.number + block.number;
    }

    public long digest() {
        long d = 7;
        for (int j = 0; j < taken; j++) {
            Job one = find(j);
            d = one == null ? d : one.digestFrom(d);
        }
        d = d * 31 + now;
        for (int what = 0; what <= 7; what++) {
            d = d * 31 + told(what);
        }
        for (int f = 0; f < core.size; f++) {
            for (int what = 0; what <= 4; what++) {
                d = d * 31 + frame(f, what);
            }
        }
        return d;
    }

    private Job find(int j) {
        return j >= 0 && j < taken && j < MOST_JOBS ? jobs[j] : null;
    }

    /** Those that were taken first, of those that have not ended, are ACTIVE. */
    private void activate() {
        int left = core.mostActive();
        for (int j = 0; j < taken; j++) {
            Job one = find(j);
            if (one != null) {
                one.active = one.end == 0 && left > 0;
                left -= one.active ? 1 : 0;
            }
        }
    }

    private void tick() {
        finishTransfer();
        chooseVictim();
        drum.begin(now);
        int next = nextInHand();
        Job job = find(next);
        if (job == null) {
            idleTicks++;
        } else {
            inHand = next;
            job.stopWaiting();
            settle(job, doNextOrder(job));
        }
        now++;
    }

    private void finishTransfer() {
        Block block = drum.takeEnded(now);
        if (block == null) {
            return;
        }
        if (!block.leaving) {
            block.arrive(core.rounds);
            return;
        }
        core.release(block);
        block.locked = false;
        block.leaving = false;
        // Only now does a BLOCK vanish whose job ended while it was being written.
        if (block.owner.end != 0) {
            forget(block);
        }
    }

    private void chooseVictim() {
        if (core.free > 0 || drum.writePending) {
            return;
        }
        Block victim = core.victim();
        if (victim != null) {
            victim.locked = true;
            victim.leaving = true;
            victim.chosenInRound = core.rounds;
            drum.ask(victim);
        }
    }

    /** The job in hand first, then those behind it, round the jobs. */
    private int nextInHand() {
        int start = Math.max(inHand, 0);
        for (int i = 0; i < taken; i++) {
            int j = start + i < taken ? start + i : start + i - taken;
            Job one = find(j);
            if (one != null && one.active && one.isReady(core.free > 0)) {
                return j;
            }
        }
        return NONE;
    }

    private void settle(Job job, int outcome) {
        if (outcome == MISSED) {
            misses++;
            return;
        }
        if (outcome != DONE) {
            endJob(job, outcome);
        }
        if (isCounted(outcome)) {
            ordersDone++;
            if (ordersDone % ROUND_ORDERS == 0) {
                core.holdRound();
            }
        }
    }

    /** An INSTRUCTION counts as done unless it was MISSED or ended its job by a fault. */
    private static boolean isCounted(int outcome) {
        return outcome == DONE || outcome == END_ORDER;
    }

    private int doNextOrder(Job job) {
        if (job.ordersDone >= job.limit) {
            return END_LIMIT;
        }
        int reached = reach(job, job.control);
        if (reached != DONE) {
            return reached;
        }
        Block ofControl = job.blockOf(job.control);
        long order = job.load(job.control);
        int f = Order.function(order);
        if (!Order.isKnown(f)) {
            return END_FUNCTION;
        }
        int s = job.addressIn(order);
        Block ofWord = null;
        if (Order.takesWord(f)) {
            reached = reach(job, s);
            if (reached != DONE) {
                return reached;
            }
            ofWord = job.blockOf(s);
        }
        int outcome = job.obey(f, Order.indexRegister(order), s);
        if (isCounted(outcome)) {
            core.use(ofControl);
            core.use(ofWord);
        }
        return outcome;
    }

    /** Brings the BLOCK of an address into the job's reach: DONE, MISSED, or how the job ends by it. */
    private int reach(Job job, int address) {
        if (!Job.isInStore(address)) {
            return END_ADDRESS;
        }
        Block block = job.blockOf(address);
        if (block == null && existing >= MOST_BLOCKS) {
            return END_STORE;
        }
        if (block != null && block.frame != NONE) {
            return reachHeld(job, block);
        }
        int f = core.lowestFree();
        if (f == NONE) {
            job.awaitsFrame = true;
            return MISSED;
        }
        if (block == null) {
            core.place(createBlock(job, address / BLOCK_WORDS), f);
            return DONE;
        }
        core.place(block, f);
        block.locked = true;
        drum.ask(block);
        job.awaited = block;
        return MISSED;
    }

    private int reachHeld(Job job, Block block) {
        if (block.locked) {
            job.awaited = block;
            return MISSED;
        }
        return DONE;
    }

    private Block createBlock(Job job, int k) {
        Block block = new Block(job, k);
        job.setBlock(k, block);
        existing++;
        return block;
    }

    private void endJob(Job job, int how) {
        job.end = how;
        unended--;
        for (int k = 0; k < STORE_BLOCKS; k++) {
            Block block = job.blocks[k];
            // A WRITE under way can't be called back: its BLOCK stays till it ends.
            if (block != null && block != drum.underWay) {
                drum.cancel(block);
                forget(block);
            }
        }
        activate();
    }

    private void forget(Block block) {
        core.release(block);
        drum.release(block);
        block.owner.setBlock(block.number, null);
        existing--;
    }

    /** The parts of an INSTRUCTION, and what its f asks for. */
    private static final class Order {
        static int function(long order) {
            return (int) (order >> 38) & 1023;
        }

        static int indexRegister(long order) {
            return (int) (order >> 31) & 127;
        }

        static int modifier(long order) {
            return (int) (order >> 24) & 127;
        }

        static boolean isKnown(int f) {
            return f >= 1 && f <= 12 || f >= 16 && f <= 29 || f >= 32 && f <= 34 || f >= 64 && f <= 68;
        }

        static boolean takesWord(int f) {
            return f == 4 || f == 5 || f >= 16 && f <= 22 || f == 64 || f == 65;
        }
    }

    /** What was handed in for the next job. */
    private static final class Tray {
        final long[] words = new long[MOST_TRAY_WORDS];
        final int[] bytes = new int[MOST_TRAY_BYTES];
        int wordCount = 0;
        int byteCount = 0;

        boolean hasRoomForWords(int n) {
            return wordCount + n <= MOST_TRAY_WORDS;
        }

        boolean hasRoomForBytes(int n) {
            return byteCount + n <= MOST_TRAY_BYTES;
        }

        void addWord(long value) {
            if (wordCount < MOST_TRAY_WORDS) {
                words[wordCount] = Job.wrapWord(value);
                wordCount++;
            }
        }

        /** Adds the n highest bytes of eight, all of them if n is more. */
        void addBytes(long eight, int n) {
            for (int i = 0; i < n && i < 8 && byteCount < MOST_TRAY_BYTES; i++) {
                bytes[byteCount] = (int) (eight >> (56 - 8 * i)) & 255;
                byteCount++;
            }
        }

        void empty() {
            wordCount = 0;
            byteCount = 0;
        }
    }

    /** A BLOCK that exists. Its words stand in its job, wherever the BLOCK lies. */
    private static final class Block {
        final Job owner;
        final int number;
        int frame = NONE;
        int sector = NONE;
        boolean locked = false;
        /** A WRITE of it is asked for or under way. */
        boolean leaving = false;
        /** The document's t and T. */
        int unusedRounds = 0;
        int lastPause = 0;
        /** How many ROUNDS there had been when it was USED last, and when it was VICTIM last. */
        int usedInRound = NONE;
        int chosenInRound = NONE;

        Block(Job owner, int number) {
            this.owner = owner;
            this.number = number;
        }

        void arrive(int rounds) {
            locked = false;
            unusedRounds = 0;
            lastPause = chosenInRound == NONE ? 0 : rounds - chosenInRound;
        }

        void age(int rounds) {
            if (usedInRound != rounds) {
                unusedRounds++;
                return;
            }
            if (unusedRounds > 0) {
                lastPause = unusedRounds;
            }
            unusedRounds = 0;
        }

        boolean mayLeave() {
            return !locked && !owner.wants(this);
        }

        /** 0 if it is unused for longer than its last pause foretold, 1 if it is unused, 2 if it is not. */
        int victimClass() {
            if (unusedRounds > lastPause + 1) {
                return 0;
            }
            return unusedRounds > 0 ? 1 : 2;
        }

        boolean isBetterVictimThan(Block other) {
            int mine = victimClass();
            int others = other.victimClass();
            if (mine != others) {
                return mine < others;
            }
            // Where the class is 2 both are unused for 0 ROUNDS, so that T alone decides.
            return mine > 0 && lastPause - unusedRounds > other.lastPause - other.unusedRounds;
        }
    }

    /** The FRAMES, and what was learnt of the BLOCKS in them. */
    private static final class Core {
        final Block[] held = new Block[MOST_FRAMES];
        int size = FIRST_FRAMES;
        int free = FIRST_FRAMES;
        int rounds = 0;

        /** Only for a core that holds no BLOCK. */
        void resize(int f) {
            size = f;
            free = f;
        }

        int mostActive() {
            return (size - 1) / 2;
        }

        Block blockIn(int f) {
            return f >= 0 && f < size && f < MOST_FRAMES ? held[f] : null;
        }

        int lowestFree() {
            for (int f = 0; f < size && free > 0; f++) {
                if (blockIn(f) == null) {
                    return f;
                }
            }
            return NONE;
        }

        void place(Block block, int f) {
            if (f >= 0 && f < MOST_FRAMES) {
                held[f] = block;
                block.frame = f;
                free--;
            }
        }

        void release(Block block) {
            int f = block.frame;
            if (f >= 0 && f < MOST_FRAMES) {
                held[f] = null;
                block.frame = NONE;
                free++;
            }
        }

        Block victim() {
            Block best = null;
            for (int f = 0; f < size; f++) {
                Block block = blockIn(f);
                if (block != null && block.mayLeave() && (best == null || block.isBetterVictimThan(best))) {
                    best = block;
                }
            }
            return best;
        }

        void use(Block block) {
            if (block != null) {
                block.usedInRound = rounds;
            }
        }

        void holdRound() {
            for (int f = 0; f < size; f++) {
                Block block = blockIn(f);
                if (block != null && !block.locked) {
                    block.age(rounds);
                }
            }
            rounds++;
        }
    }

    /** The SECTORS, and the TRANSFERS in the order in which they were asked for. */
    private static final class Drum {
        final Block[] sectors = new Block[SECTORS];
        // Each TRANSFER has a LOCKED FRAME, so that there are never more of them than FRAMES.
        final Block[] asked = new Block[MOST_FRAMES];
        int askedCount = 0;
        Block underWay = null;
        int endsAt = 0;
        /** A WRITE is asked for or under way. */
        boolean writePending = false;
        int reads = 0;
        int writes = 0;

        Block blockOn(int d) {
            return d >= 0 && d < SECTORS ? sectors[d] : null;
        }

        /** Puts a program's BLOCK on the lowest free SECTOR. */
        void load(Block block) {
            for (int d = 0; d < SECTORS; d++) {
                if (sectors[d] == null) {
                    put(block, d);
                    return;
                }
            }
        }

        void put(Block block, int d) {
            if (d >= 0 && d < SECTORS) {
                sectors[d] = block;
                block.sector = d;
            }
        }

        void release(Block block) {
            int d = block.sector;
            if (d >= 0 && d < SECTORS) {
                sectors[d] = null;
                block.sector = NONE;
            }
        }

        void ask(Block block) {
            if (askedCount < MOST_FRAMES) {
                asked[askedCount] = block;
                askedCount++;
                writePending = writePending || block.leaving;
            }
        }

        void cancel(Block block) {
            for (int i = 0; i < askedCount && i < MOST_FRAMES; i++) {
                if (asked[i] == block) {
                    dropAsked(i);
                    writePending = writePending && !block.leaving;
                    return;
                }
            }
        }

        void dropAsked(int i) {
            for (int at = i; at >= 0 && at + 1 < askedCount && at + 1 < MOST_FRAMES; at++) {
                asked[at] = asked[at + 1];
            }
            askedCount--;
        }

        void begin(int clock) {
            Block first = asked[0];
            if (underWay != null || askedCount == 0 || first == null) {
                return;
            }
            int d = first.leaving ? nextFreeSector(clock) : first.sector;
            if (d == NONE) {
                return;
            }
            if (first.leaving) {
                put(first, d);
                writes++;
            } else {
                release(first);
                reads++;
            }
            dropAsked(0);
            underWay = first;
            endsAt = clock + ticksTill(d, clock) + 2;
        }

        /** The BLOCK of the TRANSFER that ends at this tick, if one does; it is under way no more. */
        Block takeEnded(int clock) {
            Block block = underWay;
            if (block == null || endsAt != clock) {
                return null;
            }
            underWay = null;
            writePending = writePending && !block.leaving;
            return block;
        }

        int nextFreeSector(int clock) {
            int best = NONE;
            int least = DRUM_TURN;
            for (int d = 0; d < SECTORS; d++) {
                int ticks = ticksTill(d, clock);
                if (sectors[d] == null && ticks < least) {
                    best = d;
                    least = ticks;
                }
            }
            return best;
        }

        /** How many ticks it is till a SECTOR passes the heads, always fewer than a turn has. */
        static int ticksTill(int d, int clock) {
            return Math.floorMod(2 * (d % SECTORS_ROUND) - clock, DRUM_TURN);
        }
    }

    /** A job: its registers, its STORE as it sees it, its TAPE and what it PRINTED. */
    private static final class Job {
        final int number;
        final int limit;
        long accumulator = 0;
        final int[] indexes = new int[B_REGISTERS];
        int control = 0;
        final long[] store = new long[STORE_WORDS];
        final Block[] blocks = new Block[STORE_BLOCKS];
        final int[] tape;
        int tapeAt = 0;
        final int[] print = new int[MOST_PRINTED];
        int printCount = 0;
        int ordersDone = 0;
        int end = 0;
        boolean active = false;
        /** What it waits for: a BLOCK, or a free FRAME, or neither. */
        Block awaited = null;
        boolean awaitsFrame = false;

        Job(int number, int limit, Tray tray, int words) {
            this.number = number;
            this.limit = limit;
            for (int i = 0; i < words && i < MOST_TRAY_WORDS; i++) {
                store[i] = tray.words[i];
            }
            tape = new int[Math.max(tray.byteCount, 0)];
            for (int i = 0; i < tape.length && i < MOST_TRAY_BYTES; i++) {
                tape[i] = tray.bytes[i];
            }
        }

        static long wrapWord(long value) {
            return value << 16 >> 16;
        }

        static int wrapIndex(int value) {
            return value << 8 >> 8;
        }

        static boolean isInStore(int address) {
            return address >= 0 && address < STORE_WORDS;
        }

        boolean isReady(boolean frameIsFree) {
            if (awaitsFrame) {
                return frameIsFree;
            }
            return awaited == null || !awaited.locked;
        }

        void stopWaiting() {
            awaited = null;
            awaitsFrame = false;
        }

        boolean wants(Block block) {
            return active && (Math.floorDiv(control, BLOCK_WORDS) == block.number || awaited == block);
        }

        Block blockOf(int address) {
            return isInStore(address) ? blocks[address / BLOCK_WORDS] : null;
        }

        void setBlock(int k, Block block) {
            if (k >= 0 && k < STORE_BLOCKS) {
                blocks[k] = block;
            }
        }

        long load(int address) {
            return isInStore(address) ? store[address] : 0;
        }

        void keep(int address, long value) {
            if (isInStore(address)) {
                store[address] = value;
            }
        }

        int index(int r) {
            return r >= 0 && r < B_REGISTERS ? indexes[r] : 0;
        }

        void setIndex(int r, int value) {
            // Register 0 is 0 for ever.
            if (r > 0 && r < B_REGISTERS) {
                indexes[r] = wrapIndex(value);
            }
        }

        int printedByte(int i) {
            return i >= 0 && i < printCount && i < MOST_PRINTED ? print[i] : -1;
        }

        int addressIn(long order) {
            int s = (int) order + index(Order.modifier(order));
            if (Order.function(order) >= 16) {
                s += index(Order.indexRegister(order));
            }
            return wrapIndex(s);
        }

        /** Does an order whose word, if it takes one, is in reach: DONE, or how the job ends by it. */
        int obey(int f, int a, int s) {
            int outcome = DONE;
            if (f < 16) {
                obeyIndexOrder(f, a, s);
            } else if (f < 32) {
                obeyAccumulatorOrder(f, s);
            } else {
                outcome = obeyRoutine(f, s);
            }
            if (isCounted(outcome)) {
                control = goesElsewhere(f, a) ? s : control + 1;
                ordersDone++;
            }
            return outcome;
        }

        void obeyIndexOrder(int f, int a, int s) {
            switch (f) {
                case 1:
                    setIndex(a, s);
                    break;
                case 2:
                    setIndex(a, index(a) + s);
                    break;
                case 3:
                    setIndex(a, index(a) - s);
                    break;
                case 4:
                    setIndex(a, (int) load(s));
                    break;
                case 5:
                    keep(s, index(a));
                    break;
                case 10:
                    setIndex(a, index(a) - 1);
                    break;
                case 11:
                    setIndex(a, (int) accumulator);
                    break;
                case 12:
                    accumulator = index(a);
                    break;
                default:
                    break;
            }
        }

        void obeyAccumulatorOrder(int f, int s) {
            switch (f) {
                case 16:
                    accumulator = load(s);
                    break;
                case 17:
                    accumulator = wrapWord(-load(s));
                    break;
                case 18:
                    accumulator = wrapWord(accumulator + load(s));
                    break;
                case 19:
                    accumulator = wrapWord(accumulator - load(s));
                    break;
                case 20:
                    keep(s, accumulator);
                    break;
                case 21:
                    accumulator = wrapWord(accumulator * load(s));
                    break;
                case 22:
                    accumulator = accumulator & load(s);
                    break;
                case 23:
                    accumulator = s;
                    break;
                case 28:
                    accumulator = accumulator >> 1;
                    break;
                default:
                    break;
            }
        }

        /** Asked behind the order's other work: order 10 looks at what it has made of its register. */
        boolean goesElsewhere(int f, int a) {
            switch (f) {
                case 6:
                    return index(a) == 0;
                case 7:
                case 10:
                    return index(a) != 0;
                case 8:
                    return index(a) >= 0;
                case 9:
                    return index(a) < 0;
                case 24:
                    return accumulator == 0;
                case 25:
                    return accumulator != 0;
                case 26:
                    return accumulator >= 0;
                case 27:
                    return accumulator < 0;
                case 29:
                    return true;
                default:
                    return false;
            }
        }

        int obeyRoutine(int f, int s) {
            switch (f) {
                case 32:
                    return printByte((int) accumulator & 255);
                case 33:
                    accumulator = takeByte();
                    return DONE;
                case 34:
                    return END_ORDER;
                case 64:
                case 65:
                    return divide(load(s), f == 65);
                case 66:
                    return printNumber();
                case 67:
                    accumulator = takeNumber();
                    return DONE;
                case 68:
                    return takeRoot();
                default:
                    return END_FUNCTION;
            }
        }

        int printByte(int value) {
            if (printCount < 0 || printCount >= MOST_PRINTED) {
                return END_PRINT;
            }
            print[printCount] = value;
            printCount++;
            return DONE;
        }

        int printNumber() {
            long rest = Math.abs(accumulator);
            int outcome = accumulator < 0 ? printByte('-') : DONE;
            long unit = 1;
            // A WORD has fifteen digits at most.
            for (int i = 0; i < 15 && unit <= rest / 10; i++) {
                unit *= 10;
            }
            for (int i = 0; i < 16 && unit > 0 && outcome == DONE; i++) {
                outcome = printByte((int) ('0' + rest / unit));
                rest %= unit;
                unit /= 10;
            }
            return outcome == DONE ? printByte(10) : outcome;
        }

        /** The next byte of the TAPE, which stays there; -1 if none is left. */
        int nextByte() {
            return tapeAt >= 0 && tapeAt < tape.length ? tape[tapeAt] : -1;
        }

        int takeByte() {
            int value = nextByte();
            if (value != -1) {
                tapeAt++;
            }
            return value;
        }

        long takeNumber() {
            for (int i = 0; i < MOST_TRAY_BYTES && (nextByte() == 32 || nextByte() == 10); i++) {
                tapeAt++;
            }
            boolean negative = nextByte() == '-';
            if (negative) {
                tapeAt++;
            }
            long value = 0;
            for (int i = 0; i < MOST_TRAY_BYTES && nextByte() >= '0' && nextByte() <= '9'; i++) {
                value = wrapWord(value * 10 + nextByte() - '0');
                tapeAt++;
            }
            if (nextByte() != -1) {
                tapeAt++;
            }
            return wrapWord(negative ? -value : value);
        }

        int divide(long by, boolean wantsRest) {
            long least = -1L << 47;
            if (by == 0 || by == least || accumulator == least) {
                return END_NUMBER;
            }
            accumulator = wantsRest ? accumulator % by : accumulator / by;
            return DONE;
        }

        int takeRoot() {
            if (accumulator < 0) {
                return END_NUMBER;
            }
            long root = 0;
            for (long bit = 1L << 23; bit > 0; bit >>= 1) {
                long trial = root + bit;
                if (trial * trial <= accumulator) {
                    root = trial;
                }
            }
            accumulator = root;
            return DONE;
        }

        long digestFrom(long start) {
            long d = start * 31 + ordersDone;
            d = d * 31 + end;
            d = d * 31 + printCount;
            for (int i = 0; i < printCount && i < MOST_PRINTED; i++) {
                d = d * 31 + print[i];
            }
            d = d * 31 + accumulator;
            for (int i = 0; i < STORE_WORDS && end == 0; i++) {
                d = d * 31 + store[i];
            }
            return d;
        }
    }
}
