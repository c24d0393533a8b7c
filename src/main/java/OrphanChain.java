import java.util.Arrays;

/**
 * A chain of sums whose entries are linked by numbers. What a call answers is said in the
 * document, promise by promise; every object and array is made by the constructor.
 */
public final class OrphanChain {
    public static final int INVALID_ARGUMENT = -100001;
    public static final int ILLEGAL_STATE = -100002;
    public static final int CAPACITY_EXCEEDED = -100003;
    public static final int NONE = -100009;

    private static final int MOST_ENTRIES = 60;
    private static final int MOST_BRANCHES = 10;
    private static final int MOST_SEALS = 8;
    private static final int MOST_STATES = 5;
    private static final int MOST_SIGNS = 100;
    private static final int MOST_ORDERED = 5;
    private static final int MOST_AMOUNT = 999;
    private static final int MOST_PATIENCE = 30;
    private static final int MOST_DIGITS = 4;
    private static final int GREATEST_SIGN = 255;
    private static final int ACCOUNTS = 6;
    private static final int SLOTS = 2;

    private static final int FIRST_PATIENCE = 3;
    private static final int FIRST_LINK = 1;
    private static final int LINK_DIVISOR = 9973;
    private static final int FAULT_BASE = -1000;
    private static final int NO_FAULT = -1;

    // the kinds of entries
    private static final int DEPOSIT = 1;
    private static final int PAYMENT = 2;
    private static final int FEE = 3;
    private static final int NOTE = 4;

    // the states of branches; that one is loud is never kept, as it follows from its pleas
    private static final int WAITING = 0;
    private static final int LOUD = 1;
    private static final int ADOPTED = 2;
    private static final int DISMISSED = 3;

    // the single numbers of a ledger; ENTRIES is never 0 in a ledger, so that 0 tells an empty slot
    private static final int ENTRIES = 0;
    private static final int HEAD = 1;
    private static final int PATIENCE = 2;
    private static final int BRANCHES = 3;
    private static final int SEALS = 4;
    private static final int NUMBERS = 5;

    // what is kept of an entry, numbered as entry() numbers it
    private static final int KIND = 0;
    private static final int FIRST_ACCOUNT = 1;
    private static final int SECOND_ACCOUNT = 2;
    private static final int AMOUNT = 3;
    private static final int PARENT = 4;
    private static final int LINK = 5;
    private static final int ORIGIN = 6;
    private static final int ENTRY_FIELDS = 7;

    // what is kept of a branch, numbered as branch() numbers it
    private static final int LEAF = 0;
    private static final int BRANCH_LENGTH = 1;
    private static final int BRANCH_START = 2;
    private static final int PLEAS = 3;
    private static final int BRANCH_STATE = 4;
    private static final int BRANCH_FIELDS = 5;

    // what is kept of a seal, numbered as sealed() numbers it
    private static final int SEAL_ENTRY = 0;
    private static final int SEAL_LINK = 1;
    private static final int SEAL_FIELDS = 2;

    private static final int ENTRY_CELLS = NUMBERS;
    private static final int BRANCH_CELLS = ENTRY_CELLS + MOST_ENTRIES * ENTRY_FIELDS;
    private static final int SEAL_CELLS = BRANCH_CELLS + MOST_BRANCHES * BRANCH_FIELDS;
    private static final int LEDGER_CELLS = SEAL_CELLS + MOST_SEALS * SEAL_FIELDS;
    private static final int STATE_CELLS = LEDGER_CELLS * (1 + SLOTS);

    private final Ledger ledger;
    private final History history;
    private final Text text;
    private final Proof proof;
    private final Orders adoptions;
    private final Purse purse;
    private final Path path;

    public OrphanChain() {
        ledger = new Ledger();
        history = new History();
        text = new Text();
        proof = new Proof();
        adoptions = new Orders();
        purse = new Purse();
        path = new Path();
    }

    // ---- writing

    public int deposit(int to, int amount) {
        if (!isAccount(to) || !isSum(amount)) {
            return INVALID_ARGUMENT;
        }
        return write(DEPOSIT, 0, to, amount);
    }

    public int pay(int from, int to, int amount) {
        if (!isPayer(from) || !isPayer(to) || from == to || !isSum(amount)) {
            return INVALID_ARGUMENT;
        }
        return write(PAYMENT, from, to, amount);
    }

    public int fee(int from, int amount) {
        if (!isPayer(from) || !isSum(amount)) {
            return INVALID_ARGUMENT;
        }
        return write(FEE, from, 0, amount);
    }

    public int note(int code) {
        if (!isCode(code)) {
            return INVALID_ARGUMENT;
        }
        return write(NOTE, 0, 0, code);
    }

    private int write(int kind, int first, int second, int amount) {
        if (ledger.loudBranches() > 0) {
            return ILLEGAL_STATE;
        }
        purse.fill(ledger, ledger.number(HEAD));
        if (!purse.affords(kind, first, amount)) {
            return ILLEGAL_STATE;
        }
        if (ledger.room() < 1) {
            return CAPACITY_EXCEEDED;
        }
        history.remember(ledger);
        ledger.plead();
        return ledger.addEntry(kind, first, second, amount, NONE);
    }

    // ---- branches

    public int goBack(int entry) {
        if (!ledger.hasEntry(entry)) {
            return INVALID_ARGUMENT;
        }
        int head = ledger.number(HEAD);
        if (!ledger.isOnPath(entry, head)) {
            return ILLEGAL_STATE;
        }
        int branches = ledger.number(BRANCHES);
        if (entry != head && branches >= MOST_BRANCHES) {
            return CAPACITY_EXCEEDED;
        }
        history.remember(ledger);
        if (entry != head) {
            int length = ledger.pathLength(head) - ledger.pathLength(entry);
            path.trace(ledger, head, length);
            ledger.addBranch(head, length, path.at(0));
            ledger.setNumber(HEAD, entry);
        }
        return branches;
    }

    public int setPatience(int patience) {
        if (!isWithin(patience, 1, MOST_PATIENCE)) {
            return INVALID_ARGUMENT;
        }
        history.remember(ledger);
        int previous = ledger.number(PATIENCE);
        ledger.setNumber(PATIENCE, patience);
        return previous;
    }

    public int adopt(int branch, int how) {
        if (!ledger.hasBranch(branch) || !isWithin(how, 0, 1)) {
            return INVALID_ARGUMENT;
        }
        if (!ledger.isWaiting(branch)) {
            return ILLEGAL_STATE;
        }
        layOut(branch);
        int written = purse.addAfforded(ledger, path);
        if (how == 0 && written < path.length()) {
            return ILLEGAL_STATE;
        }
        if (written > ledger.room()) {
            return CAPACITY_EXCEEDED;
        }
        history.remember(ledger);
        writeAnew();
        ledger.setOfBranch(branch, BRANCH_STATE, ADOPTED);
        return written;
    }

    /** Writes the entries of the path anew at the head, and leaves out those that fail. */
    private void writeAnew() {
        purse.fill(ledger, ledger.number(HEAD));
        for (int place = 0; place < path.length(); place++) {
            int entry = path.at(place);
            if (purse.addIfAfforded(ledger, entry)) {
                ledger.addAnew(entry);
            }
        }
    }

    public int dismiss(int branch) {
        if (!ledger.hasBranch(branch)) {
            return INVALID_ARGUMENT;
        }
        if (!ledger.isWaiting(branch)) {
            return ILLEGAL_STATE;
        }
        if (ledger.room() < 1) {
            return CAPACITY_EXCEEDED;
        }
        history.remember(ledger);
        ledger.setOfBranch(branch, BRANCH_STATE, DISMISSED);
        return ledger.addEntry(NOTE, 0, 0, ledger.ofBranch(branch, LEAF), NONE);
    }

    // ---- forging, sealing

    public int forge(int entry, int amount) {
        if (entry == 0 || !ledger.hasEntry(entry)) {
            return INVALID_ARGUMENT;
        }
        boolean isNote = ledger.ofEntry(entry, KIND) == NOTE;
        if (isNote ? !isCode(amount) : !isSum(amount)) {
            return INVALID_ARGUMENT;
        }
        if (!canForge(entry, amount)) {
            return ILLEGAL_STATE;
        }
        history.remember(ledger);
        int previous = ledger.ofEntry(entry, AMOUNT);
        ledger.setOfEntry(entry, AMOUNT, amount);
        return previous;
    }

    /** Tells if no balance at the entry or below it would be less than 0 by another amount. */
    private boolean canForge(int entry, int amount) {
        int kind = ledger.ofEntry(entry, KIND);
        int more = amount - ledger.ofEntry(entry, AMOUNT);
        for (int place = entry; place < ledger.number(ENTRIES); place++) {
            if (ledger.isOnPath(entry, place)) {
                purse.fill(ledger, place);
                if (brings(kind) && purse.sum(ledger.ofEntry(entry, SECOND_ACCOUNT)) + more < 0) {
                    return false;
                }
                if (takes(kind) && purse.sum(ledger.ofEntry(entry, FIRST_ACCOUNT)) - more < 0) {
                    return false;
                }
            }
        }
        return true;
    }

    public int relink(int entry) {
        if (!ledger.hasEntry(entry)) {
            return INVALID_ARGUMENT;
        }
        history.remember(ledger);
        int changed = 0;
        for (int place = entry; place < ledger.number(ENTRIES); place++) {
            if (ledger.isOnPath(entry, place) && !ledger.fits(place)) {
                ledger.setOfEntry(place, LINK, ledger.fittingLink(place));
                changed++;
            }
        }
        return changed;
    }

    public int seal() {
        if (ledger.number(SEALS) >= MOST_SEALS) {
            return CAPACITY_EXCEEDED;
        }
        history.remember(ledger);
        return ledger.addSeal();
    }

    // ---- snapshots

    public int take(int slot) {
        if (!isSlot(slot)) {
            return INVALID_ARGUMENT;
        }
        history.remember(ledger);
        ledger.keepIn(slot);
        return ledger.number(ENTRIES);
    }

    public int restore(int slot) {
        if (!isSlot(slot)) {
            return INVALID_ARGUMENT;
        }
        if (ledger.isEmpty(slot)) {
            return ILLEGAL_STATE;
        }
        history.remember(ledger);
        ledger.bringFrom(slot);
        return ledger.number(ENTRIES);
    }

    public int undo() {
        if (history.states() < 1) {
            return ILLEGAL_STATE;
        }
        history.bringBack(ledger);
        return history.states();
    }

    // ---- text

    public int append(int character) {
        if (!isWithin(character, 1, GREATEST_SIGN)) {
            return INVALID_ARGUMENT;
        }
        if (text.length() >= MOST_SIGNS) {
            return CAPACITY_EXCEEDED;
        }
        text.add(character);
        return text.length();
    }

    public int clearText() {
        int previous = text.length();
        text.clear();
        return previous;
    }

    public int check() {
        int fault = proof.parse(text);
        if (fault != NO_FAULT) {
            return FAULT_BASE - fault;
        }
        int start = proof.startEntry();
        if (!ledger.hasEntry(start) || !ledger.isOnPath(start, ledger.number(HEAD))) {
            return INVALID_ARGUMENT;
        }
        traceChain();
        int before = ledger.pathLength(start) - 1;
        for (int told = 0; told < proof.links(); told++) {
            int entry = path.at(before + told);
            if (entry == NONE || ledger.ofEntry(entry, LINK) != proof.link(told)) {
                return -1 - told;
            }
        }
        return proof.links();
    }

    // ---- looking

    public int count(int what) {
        switch (what) {
            case 0: return ledger.number(ENTRIES);
            case 1: return ledger.number(HEAD);
            case 2: return ledger.pathLength(ledger.number(HEAD));
            case 3: return ledger.number(BRANCHES);
            case 4: return ledger.waitingBranches();
            case 5: return ledger.loudBranches();
            case 6: return ledger.number(PATIENCE);
            case 7: return ledger.number(SEALS);
            case 8: return ledger.brokenSeals();
            case 9: return ledger.brokenLinks();
            case 10: return ledger.firstBrokenLink();
            case 11: return ledger.leaves();
            case 12: return ledger.snapshots();
            case 13: return history.states();
            case 14: return text.length();
            default: return INVALID_ARGUMENT;
        }
    }

    public int entry(int entry, int what) {
        if (!ledger.hasEntry(entry)) {
            return INVALID_ARGUMENT;
        }
        switch (what) {
            case 0: return ledger.ofEntry(entry, KIND);
            case 1: return ledger.ofEntry(entry, FIRST_ACCOUNT);
            case 2: return ledger.ofEntry(entry, SECOND_ACCOUNT);
            case 3: return ledger.ofEntry(entry, AMOUNT);
            case 4: return ledger.ofEntry(entry, PARENT);
            case 5: return ledger.ofEntry(entry, LINK);
            case 6: return ledger.fits(entry) ? 1 : 0;
            case 7: return ledger.isOnPath(entry, ledger.number(HEAD)) ? 1 : 0;
            case 8: return ledger.ofEntry(entry, ORIGIN);
            case 9: return ledger.pathLength(entry);
            case 10: return totalAt(entry);
            default: return INVALID_ARGUMENT;
        }
    }

    private int totalAt(int entry) {
        purse.fill(ledger, entry);
        return purse.total();
    }

    public int balance(int account, int entry) {
        if (!isAccount(account) || !ledger.hasEntry(entry)) {
            return INVALID_ARGUMENT;
        }
        purse.fill(ledger, entry);
        return purse.sum(account);
    }

    public int onChain(int place) {
        if (place < 0) {
            return INVALID_ARGUMENT;
        }
        traceChain();
        return path.at(place);
    }

    public int branch(int branch, int what) {
        if (!ledger.hasBranch(branch)) {
            return INVALID_ARGUMENT;
        }
        switch (what) {
            case 0: return ledger.ofBranch(branch, LEAF);
            case 1: return ledger.ofBranch(branch, BRANCH_LENGTH);
            case 2: return ledger.ofBranch(branch, BRANCH_START);
            case 3: return ledger.ofBranch(branch, PLEAS);
            case 4: return ledger.isLoud(branch) ? LOUD : ledger.ofBranch(branch, BRANCH_STATE);
            case 5: return ledger.lastShared(ledger.ofBranch(branch, LEAF), ledger.number(HEAD));
            default: return INVALID_ARGUMENT;
        }
    }

    public int sealed(int seal, int what) {
        if (!ledger.hasSeal(seal)) {
            return INVALID_ARGUMENT;
        }
        switch (what) {
            case 0: return ledger.ofSeal(seal, SEAL_ENTRY);
            case 1: return ledger.ofSeal(seal, SEAL_LINK);
            case 2: return ledger.sealFits(seal) ? 1 : 0;
            default: return INVALID_ARGUMENT;
        }
    }

    public int common(int one, int other) {
        if (!ledger.hasEntry(one) || !ledger.hasEntry(other)) {
            return INVALID_ARGUMENT;
        }
        return ledger.lastShared(one, other);
    }

    // ---- what could be, which changes nothing

    public int failing(int branch, int what) {
        if (!ledger.hasBranch(branch) || !isWithin(what, 0, 1)) {
            return INVALID_ARGUMENT;
        }
        layOut(branch);
        if (what == 0) {
            return purse.firstRefused(ledger, path);
        }
        return purse.addAfforded(ledger, path);
    }

    public int orders() {
        if (ledger.waitingBranches() > MOST_ORDERED) {
            return NONE;
        }
        return adoptions.howMany(ledger);
    }

    public int peak(int account, int what) {
        if (!isAccount(account) || !isWithin(what, 0, 1)) {
            return INVALID_ARGUMENT;
        }
        traceChain();
        purse.clear();
        int greatest = 0;
        int where = 0;
        for (int place = 0; place < path.length(); place++) {
            purse.add(ledger, path.at(place));
            if (purse.sum(account) > greatest) {
                greatest = purse.sum(account);
                where = path.at(place);
            }
        }
        return what == 0 ? greatest : where;
    }

    // ---- helpers of several calls

    private void traceChain() {
        int head = ledger.number(HEAD);
        path.trace(ledger, head, ledger.pathLength(head));
    }

    /** Lays out the entries of a branch as the path, and the balances at the head in the purse. */
    private void layOut(int branch) {
        path.traceBranch(ledger, branch);
        purse.fill(ledger, ledger.number(HEAD));
    }

    private static boolean isWithin(int value, int least, int most) {
        return value >= least && value <= most;
    }

    private static boolean isAccount(int account) {
        return isWithin(account, 0, ACCOUNTS - 1);
    }

    private static boolean isPayer(int account) {
        return isWithin(account, 1, ACCOUNTS - 1);
    }

    private static boolean isSum(int amount) {
        return isWithin(amount, 1, MOST_AMOUNT);
    }

    private static boolean isCode(int code) {
        return isWithin(code, 0, MOST_AMOUNT);
    }

    private static boolean isSlot(int slot) {
        return isWithin(slot, 0, SLOTS - 1);
    }

    private static boolean takes(int kind) {
        return kind == PAYMENT || kind == FEE;
    }

    private static boolean brings(int kind) {
        return kind == DEPOSIT || kind == PAYMENT || kind == FEE;
    }

    /**
     * The entries, branches and seals, and behind them both snapshots of such numbers: all in one
     * row, so that to keep a state is to copy a row, and nothing has to be made for it.
     */
    private static final class Ledger {
        private final int[] cells = new int[STATE_CELLS];

        Ledger() {
            setNumber(ENTRIES, 1);
            setNumber(PATIENCE, FIRST_PATIENCE);
            setOfEntry(0, PARENT, NONE);
            setOfEntry(0, LINK, FIRST_LINK);
            setOfEntry(0, ORIGIN, NONE);
        }

        // -- the cells

        int number(int which) {
            return which >= 0 && which < NUMBERS ? cells[which] : 0;
        }

        void setNumber(int which, int value) {
            if (which >= 0 && which < NUMBERS) {
                cells[which] = value;
            }
        }

        int ofEntry(int entry, int field) {
            if (entry < 0 || entry >= MOST_ENTRIES || field < 0 || field >= ENTRY_FIELDS) {
                return 0;
            }
            return cells[ENTRY_CELLS + entry * ENTRY_FIELDS + field];
        }

        void setOfEntry(int entry, int field, int value) {
            if (entry >= 0 && entry < MOST_ENTRIES && field >= 0 && field < ENTRY_FIELDS) {
                cells[ENTRY_CELLS + entry * ENTRY_FIELDS + field] = value;
            }
        }

        int ofBranch(int branch, int field) {
            if (branch < 0 || branch >= MOST_BRANCHES || field < 0 || field >= BRANCH_FIELDS) {
                return 0;
            }
            return cells[BRANCH_CELLS + branch * BRANCH_FIELDS + field];
        }

        void setOfBranch(int branch, int field, int value) {
            if (branch >= 0 && branch < MOST_BRANCHES && field >= 0 && field < BRANCH_FIELDS) {
                cells[BRANCH_CELLS + branch * BRANCH_FIELDS + field] = value;
            }
        }

        int ofSeal(int seal, int field) {
            if (seal < 0 || seal >= MOST_SEALS || field < 0 || field >= SEAL_FIELDS) {
                return 0;
            }
            return cells[SEAL_CELLS + seal * SEAL_FIELDS + field];
        }

        private void setOfSeal(int seal, int field, int value) {
            if (seal >= 0 && seal < MOST_SEALS && field >= 0 && field < SEAL_FIELDS) {
                cells[SEAL_CELLS + seal * SEAL_FIELDS + field] = value;
            }
        }

        // -- entries

        boolean hasEntry(int entry) {
            return isWithin(entry, 0, number(ENTRIES) - 1);
        }

        int room() {
            return MOST_ENTRIES - number(ENTRIES);
        }

        int addEntry(int kind, int first, int second, int amount, int origin) {
            int entry = number(ENTRIES);
            setOfEntry(entry, KIND, kind);
            setOfEntry(entry, FIRST_ACCOUNT, first);
            setOfEntry(entry, SECOND_ACCOUNT, second);
            setOfEntry(entry, AMOUNT, amount);
            setOfEntry(entry, PARENT, number(HEAD));
            setOfEntry(entry, ORIGIN, origin);
            setOfEntry(entry, LINK, fittingLink(entry));
            setNumber(ENTRIES, entry + 1);
            setNumber(HEAD, entry);
            return entry;
        }

        void addAnew(int entry) {
            int first = ofEntry(entry, FIRST_ACCOUNT);
            int second = ofEntry(entry, SECOND_ACCOUNT);
            addEntry(ofEntry(entry, KIND), first, second, ofEntry(entry, AMOUNT), entry);
        }

        int leaves() {
            int leaves = 0;
            for (int entry = 0; entry < number(ENTRIES); entry++) {
                if (isLeaf(entry)) {
                    leaves++;
                }
            }
            return leaves;
        }

        private boolean isLeaf(int entry) {
            for (int later = entry + 1; later < number(ENTRIES); later++) {
                if (ofEntry(later, PARENT) == entry) {
                    return false;
                }
            }
            return true;
        }

        // -- paths; a parent has a smaller number than its entry, so that each way up ends

        boolean isOnPath(int entry, int leaf) {
            int at = leaf;
            for (int step = 0; step < MOST_ENTRIES && at > entry; step++) {
                at = ofEntry(at, PARENT);
            }
            return at == entry;
        }

        int pathLength(int leaf) {
            int length = 1;
            int at = leaf;
            for (int step = 0; step < MOST_ENTRIES && at > 0; step++) {
                at = ofEntry(at, PARENT);
                length++;
            }
            return length;
        }

        int lastShared(int one, int other) {
            int left = one;
            int right = other;
            for (int step = 0; step < 2 * MOST_ENTRIES && left != right; step++) {
                if (left > right) {
                    left = ofEntry(left, PARENT);
                } else {
                    right = ofEntry(right, PARENT);
                }
            }
            return left;
        }

        // -- links and seals

        int fittingLink(int entry) {
            if (entry == 0) {
                return FIRST_LINK;
            }
            int sum = 31 * ofEntry(ofEntry(entry, PARENT), LINK)
                    + 7 * ofEntry(entry, KIND)
                    + 11 * ofEntry(entry, FIRST_ACCOUNT)
                    + 13 * ofEntry(entry, SECOND_ACCOUNT)
                    + 17 * ofEntry(entry, AMOUNT)
                    + 19 * entry;
            return sum % LINK_DIVISOR;
        }

        boolean fits(int entry) {
            return ofEntry(entry, LINK) == fittingLink(entry);
        }

        int brokenLinks() {
            int broken = 0;
            for (int entry = 0; entry < number(ENTRIES); entry++) {
                if (!fits(entry)) {
                    broken++;
                }
            }
            return broken;
        }

        int firstBrokenLink() {
            for (int entry = 0; entry < number(ENTRIES); entry++) {
                if (!fits(entry)) {
                    return entry;
                }
            }
            return NONE;
        }

        boolean hasSeal(int seal) {
            return isWithin(seal, 0, number(SEALS) - 1);
        }

        int addSeal() {
            int seal = number(SEALS);
            setOfSeal(seal, SEAL_ENTRY, number(HEAD));
            setOfSeal(seal, SEAL_LINK, ofEntry(number(HEAD), LINK));
            setNumber(SEALS, seal + 1);
            return seal;
        }

        boolean sealFits(int seal) {
            return ofEntry(ofSeal(seal, SEAL_ENTRY), LINK) == ofSeal(seal, SEAL_LINK);
        }

        int brokenSeals() {
            int broken = 0;
            for (int seal = 0; seal < number(SEALS); seal++) {
                if (!sealFits(seal)) {
                    broken++;
                }
            }
            return broken;
        }

        // -- branches

        boolean hasBranch(int branch) {
            return isWithin(branch, 0, number(BRANCHES) - 1);
        }

        void addBranch(int leaf, int length, int start) {
            int branch = number(BRANCHES);
            setOfBranch(branch, LEAF, leaf);
            setOfBranch(branch, BRANCH_LENGTH, length);
            setOfBranch(branch, BRANCH_START, start);
            setOfBranch(branch, PLEAS, 0);
            setOfBranch(branch, BRANCH_STATE, WAITING);
            setNumber(BRANCHES, branch + 1);
        }

        boolean isWaiting(int branch) {
            return ofBranch(branch, BRANCH_STATE) == WAITING;
        }

        boolean isLoud(int branch) {
            return isWaiting(branch) && ofBranch(branch, PLEAS) >= number(PATIENCE);
        }

        void plead() {
            for (int branch = 0; branch < number(BRANCHES); branch++) {
                if (isWaiting(branch)) {
                    setOfBranch(branch, PLEAS, ofBranch(branch, PLEAS) + 1);
                }
            }
        }

        int waitingBranches() {
            int waiting = 0;
            for (int branch = 0; branch < number(BRANCHES); branch++) {
                if (isWaiting(branch)) {
                    waiting++;
                }
            }
            return waiting;
        }

        int loudBranches() {
            int loud = 0;
            for (int branch = 0; branch < number(BRANCHES); branch++) {
                if (isLoud(branch)) {
                    loud++;
                }
            }
            return loud;
        }

        // -- snapshots and states

        boolean isEmpty(int slot) {
            return !isSlot(slot) || cells[slotStart(slot) + ENTRIES] == 0;
        }

        int snapshots() {
            int taken = 0;
            for (int slot = 0; slot < SLOTS; slot++) {
                if (!isEmpty(slot)) {
                    taken++;
                }
            }
            return taken;
        }

        void keepIn(int slot) {
            if (isSlot(slot)) {
                System.arraycopy(cells, 0, cells, slotStart(slot), LEDGER_CELLS);
            }
        }

        void bringFrom(int slot) {
            if (!isEmpty(slot)) {
                System.arraycopy(cells, slotStart(slot), cells, 0, LEDGER_CELLS);
            }
        }

        private static int slotStart(int slot) {
            return (1 + slot) * LEDGER_CELLS;
        }

        void copyTo(int[] target, int start) {
            if (isWithin(start, 0, target.length - STATE_CELLS)) {
                System.arraycopy(cells, 0, target, start, STATE_CELLS);
            }
        }

        void copyFrom(int[] source, int start) {
            if (isWithin(start, 0, source.length - STATE_CELLS)) {
                System.arraycopy(source, start, cells, 0, STATE_CELLS);
            }
        }
    }

    /** The latest states, kept in a ring, so that the newest one takes the place of the oldest. */
    private static final class History {
        private final int[] cells = new int[MOST_STATES * STATE_CELLS];
        private int states = 0;
        private int next = 0;

        int states() {
            return states;
        }

        void remember(Ledger ledger) {
            ledger.copyTo(cells, next * STATE_CELLS);
            next = (next + 1) % MOST_STATES;
            states = Math.min(states + 1, MOST_STATES);
        }

        void bringBack(Ledger ledger) {
            if (states > 0) {
                next = (next + MOST_STATES - 1) % MOST_STATES;
                states--;
                ledger.copyFrom(cells, next * STATE_CELLS);
            }
        }
    }

    /** The last entries of a path, from above to its leaf; all of them, or those of a branch. */
    private static final class Path {
        private final int[] entries = new int[MOST_ENTRIES];
        private int length = 0;

        void trace(Ledger ledger, int leaf, int entryCount) {
            length = Math.max(0, Math.min(entryCount, entries.length));
            int at = leaf;
            for (int place = length - 1; place >= 0; place--) {
                entries[place] = at;
                at = ledger.ofEntry(at, PARENT);
            }
        }

        void traceBranch(Ledger ledger, int branch) {
            trace(ledger, ledger.ofBranch(branch, LEAF), ledger.ofBranch(branch, BRANCH_LENGTH));
        }

        int length() {
            return length;
        }

        int at(int place) {
            return place >= 0 && place < length && place < entries.length ? entries[place] : NONE;
        }
    }

    /** The sums that the accounts hold at some place, to which entries are added. */
    private static final class Purse {
        private final int[] sums = new int[ACCOUNTS];

        void clear() {
            Arrays.fill(sums, 0);
        }

        void fill(Ledger ledger, int leaf) {
            clear();
            int at = leaf;
            for (int step = 0; step < MOST_ENTRIES && at > 0; step++) {
                add(ledger, at);
                at = ledger.ofEntry(at, PARENT);
            }
        }

        void copyFrom(Purse other) {
            System.arraycopy(other.sums, 0, sums, 0, ACCOUNTS);
        }

        int sum(int account) {
            return account >= 0 && account < ACCOUNTS ? sums[account] : 0;
        }

        int total() {
            int total = 0;
            for (int account = 0; account < ACCOUNTS; account++) {
                total += sum(account);
            }
            return total;
        }

        boolean affords(int kind, int first, int amount) {
            return !takes(kind) || sum(first) >= amount;
        }

        void add(Ledger ledger, int entry) {
            int kind = ledger.ofEntry(entry, KIND);
            int amount = ledger.ofEntry(entry, AMOUNT);
            if (takes(kind)) {
                change(ledger.ofEntry(entry, FIRST_ACCOUNT), -amount);
            }
            if (brings(kind)) {
                change(ledger.ofEntry(entry, SECOND_ACCOUNT), amount);
            }
        }

        private void change(int account, int more) {
            if (account >= 0 && account < ACCOUNTS) {
                sums[account] += more;
            }
        }

        boolean addIfAfforded(Ledger ledger, int entry) {
            int first = ledger.ofEntry(entry, FIRST_ACCOUNT);
            if (!affords(ledger.ofEntry(entry, KIND), first, ledger.ofEntry(entry, AMOUNT))) {
                return false;
            }
            add(ledger, entry);
            return true;
        }

        void addAll(Ledger ledger, Path path) {
            for (int place = 0; place < path.length(); place++) {
                add(ledger, path.at(place));
            }
        }

        /** Leaves out the entries that fail, and returns the number of the others. */
        int addAfforded(Ledger ledger, Path path) {
            int added = 0;
            for (int place = 0; place < path.length(); place++) {
                if (addIfAfforded(ledger, path.at(place))) {
                    added++;
                }
            }
            return added;
        }

        int firstRefused(Ledger ledger, Path path) {
            for (int place = 0; place < path.length(); place++) {
                if (!addIfAfforded(ledger, path.at(place))) {
                    return path.at(place);
                }
            }
            return NONE;
        }
    }

    /**
     * Counts orders of adoption by sets of branches: whichever way the branches of a set were
     * adopted, the balances behind them are the same, so that a set needs to be looked at once.
     */
    private static final class Orders {
        private final int[] waiting = new int[MOST_ORDERED];
        private final int[] ways = new int[1 << MOST_ORDERED];
        private final Purse behind = new Purse();
        private final Purse trial = new Purse();
        private final Path path = new Path();
        private int size = 0;

        int howMany(Ledger ledger) {
            gather(ledger);
            Arrays.fill(ways, 0);
            setWays(0, 1);
            int sets = 1 << size;
            for (int set = 0; set < sets; set++) {
                if (waysTo(set) > 0) {
                    goOn(ledger, set);
                }
            }
            return waysTo(sets - 1);
        }

        private void gather(Ledger ledger) {
            size = 0;
            for (int branch = 0; branch < ledger.number(BRANCHES); branch++) {
                if (ledger.isWaiting(branch) && size < waiting.length) {
                    waiting[size] = branch;
                    size++;
                }
            }
        }

        /** Adds the ways to a set to those of each set that has one branch more. */
        private void goOn(Ledger ledger, int set) {
            fillBehind(ledger, set);
            for (int member = 0; member < size; member++) {
                int larger = set | (1 << member);
                if (larger == set) {
                    continue;
                }
                trial.copyFrom(behind);
                path.traceBranch(ledger, branchOf(member));
                if (trial.firstRefused(ledger, path) == NONE) {
                    setWays(larger, waysTo(larger) + waysTo(set));
                }
            }
        }

        private void fillBehind(Ledger ledger, int set) {
            behind.fill(ledger, ledger.number(HEAD));
            for (int member = 0; member < size; member++) {
                if ((set & (1 << member)) != 0) {
                    path.traceBranch(ledger, branchOf(member));
                    behind.addAll(ledger, path);
                }
            }
        }

        private int branchOf(int member) {
            return member >= 0 && member < waiting.length ? waiting[member] : NONE;
        }

        private int waysTo(int set) {
            return set >= 0 && set < ways.length ? ways[set] : 0;
        }

        private void setWays(int set, int value) {
            if (set >= 0 && set < ways.length) {
                ways[set] = value;
            }
        }
    }

    /** The signs that were appended. */
    private static final class Text {
        private final int[] signs = new int[MOST_SIGNS];
        private int length = 0;

        int length() {
            return length;
        }

        int at(int index) {
            return index >= 0 && index < length && index < signs.length ? signs[index] : 0;
        }

        void add(int sign) {
            if (length >= 0 && length < signs.length) {
                signs[length] = sign;
                length++;
            }
        }

        void clear() {
            length = 0;
        }
    }

    /** The numbers that were read from a text: that of an entry, and links behind it. */
    private static final class Proof {
        private final int[] numbers = new int[MOST_SIGNS];
        private int size = 0;

        /** Reads the numbers of a text; returns its fault, or NO_FAULT. */
        int parse(Text text) {
            size = 0;
            int digits = 0;
            int number = 0;
            for (int index = 0; index < text.length(); index++) {
                int sign = text.at(index);
                if (isNextDigit(sign, digits, number)) {
                    number = number * 10 + (sign - '0');
                    digits++;
                } else if (digits > 0 && sign == endSign()) {
                    keep(number);
                    digits = 0;
                    number = 0;
                } else {
                    return index;
                }
            }
            if (digits == 0 || size == 0) {
                return text.length();
            }
            keep(number);
            return NO_FAULT;
        }

        /** Digits that make 0 so far are the digit 0 alone, behind which there is no other. */
        private static boolean isNextDigit(int sign, int digits, int number) {
            boolean open = digits == 0 || (digits < MOST_DIGITS && number != 0);
            return open && isWithin(sign, '0', '9');
        }

        private int endSign() {
            return size == 0 ? ':' : ',';
        }

        private void keep(int number) {
            if (size >= 0 && size < numbers.length) {
                numbers[size] = number;
                size++;
            }
        }

        int startEntry() {
            return size > 0 ? numbers[0] : NONE;
        }

        int links() {
            return size - 1;
        }

        int link(int told) {
            int index = told + 1;
            return index >= 1 && index < size && index < numbers.length ? numbers[index] : NONE;
        }
    }
}
