import java.util.ArrayDeque;
import java.util.ArrayList;
import java.util.Deque;
import java.util.List;
import java.util.regex.Pattern;

/** What the document says, in the slowest and plainest way: lists that are copied whole. */
final class Model {
    private static final int INVALID = OrphanChain.INVALID_ARGUMENT;
    private static final int ILLEGAL = OrphanChain.ILLEGAL_STATE;
    private static final int FULL = OrphanChain.CAPACITY_EXCEEDED;
    private static final int NONE = OrphanChain.NONE;
    private static final String NUMBER = "(0|[1-9][0-9]{0,3})";
    private static final Pattern BEGUN = Pattern.compile(NUMBER + "?|" + NUMBER + ":(" + NUMBER + ",)*" + NUMBER + "?");
    private static final Pattern PROOF = Pattern.compile(NUMBER + ":" + NUMBER + "(," + NUMBER + ")*");

    private record Entry(int kind, int first, int second, int amount, int parent, int link, int origin) {
    }

    private record Branch(int leaf, List<Integer> entries, int pleas, int state) {
        boolean waits() {
            return state == 0;
        }
    }

    private record Seal(int entry, int link) {
    }

    private static final class State {
        private final List<Entry> entries = new ArrayList<>();
        private final List<Branch> branches = new ArrayList<>();
        private final List<Seal> seals = new ArrayList<>();
        private int head = 0;
        private int patience = 3;

        State copy() {
            State copy = new State();
            copy.entries.addAll(entries);
            copy.branches.addAll(branches);
            copy.seals.addAll(seals);
            copy.head = head;
            copy.patience = patience;
            return copy;
        }
    }

    private record Saved(State now, State left, State right) {
    }

    private State now = new State();
    private State left = null;
    private State right = null;
    private final Deque<Saved> history = new ArrayDeque<>();
    private final StringBuilder text = new StringBuilder();

    Model() {
        now.entries.add(new Entry(0, 0, 0, 0, NONE, 1, NONE));
    }

    // ---- what is said of paths, balances and links

    private boolean isEntry(int entry) {
        return entry >= 0 && entry < now.entries.size();
    }

    List<Integer> path(int leaf) {
        List<Integer> path = new ArrayList<>();
        for (int at = leaf; at != NONE; at = now.entries.get(at).parent()) {
            path.add(0, at);
        }
        return path;
    }

    List<Integer> chain() {
        return path(now.head);
    }

    /** Changes the balances by an entry; tells if none of them is less than 0 then. */
    private boolean move(int[] balances, int entry) {
        Entry it = now.entries.get(entry);
        if (it.kind() == 1 || it.kind() == 2 || it.kind() == 3) {
            balances[it.second()] += it.amount();
        }
        if (it.kind() == 2 || it.kind() == 3) {
            balances[it.first()] -= it.amount();
        }
        for (int balance : balances) {
            if (balance < 0) {
                return false;
            }
        }
        return true;
    }

    private int[] balances(int leaf) {
        int[] balances = new int[6];
        for (int entry : path(leaf)) {
            move(balances, entry);
        }
        return balances;
    }

    private int fitting(int number) {
        Entry it = now.entries.get(number);
        if (number == 0) {
            return 1;
        }
        long sum = 31L * now.entries.get(it.parent()).link() + 7L * it.kind() + 11L * it.first()
                + 13L * it.second() + 17L * it.amount() + 19L * number;
        return (int) (sum % 9973);
    }

    int link(int entry) {
        return now.entries.get(entry).link();
    }

    private boolean fits(int entry) {
        return link(entry) == fitting(entry);
    }

    private void set(int number, int amount, int link) {
        Entry it = now.entries.get(number);
        now.entries.set(number, new Entry(it.kind(), it.first(), it.second(), amount, it.parent(), link, it.origin()));
    }

    private int put(int kind, int first, int second, int amount, int origin) {
        int number = now.entries.size();
        now.entries.add(new Entry(kind, first, second, amount, now.head, 0, origin));
        set(number, amount, fitting(number));
        now.head = number;
        return number;
    }

    private boolean isLoud(Branch branch) {
        return branch.waits() && branch.pleas() >= now.patience;
    }

    private int loud() {
        return (int) now.branches.stream().filter(this::isLoud).count();
    }

    private List<Branch> waiting() {
        return now.branches.stream().filter(Branch::waits).toList();
    }

    private void record() {
        history.addLast(new Saved(now.copy(), left, right));
        if (history.size() > 5) {
            history.removeFirst();
        }
    }

    // ---- the calls

    private int write(int kind, int first, int second, int amount) {
        boolean little = (kind == 2 || kind == 3) && balances(now.head)[first] < amount;
        if (loud() > 0 || little) {
            return ILLEGAL;
        }
        if (now.entries.size() == 60) {
            return FULL;
        }
        record();
        now.branches.replaceAll(b -> b.waits() ? new Branch(b.leaf(), b.entries(), b.pleas() + 1, 0) : b);
        return put(kind, first, second, amount, NONE);
    }

    int deposit(int to, int amount) {
        return to < 0 || to > 5 || amount < 1 || amount > 999 ? INVALID : write(1, 0, to, amount);
    }

    int pay(int from, int to, int amount) {
        boolean wrong = from < 1 || from > 5 || to < 1 || to > 5 || from == to || amount < 1 || amount > 999;
        return wrong ? INVALID : write(2, from, to, amount);
    }

    int fee(int from, int amount) {
        return from < 1 || from > 5 || amount < 1 || amount > 999 ? INVALID : write(3, from, 0, amount);
    }

    int note(int code) {
        return code < 0 || code > 999 ? INVALID : write(4, 0, 0, code);
    }

    int goBack(int entry) {
        if (!isEntry(entry)) {
            return INVALID;
        }
        List<Integer> chain = chain();
        if (!chain.contains(entry)) {
            return ILLEGAL;
        }
        int branches = now.branches.size();
        if (entry != now.head && branches == 10) {
            return FULL;
        }
        record();
        if (entry != now.head) {
            List<Integer> orphans = new ArrayList<>(chain);
            orphans.removeAll(path(entry));
            now.branches.add(new Branch(now.head, orphans, 0, 0));
            now.head = entry;
        }
        return branches;
    }

    int setPatience(int patience) {
        if (patience < 1 || patience > 30) {
            return INVALID;
        }
        record();
        int previous = now.patience;
        now.patience = patience;
        return previous;
    }

    /** The entries of a branch that would be written at the head, one behind another. */
    private List<Integer> passing(Branch branch) {
        List<Integer> passing = new ArrayList<>();
        int[] balances = balances(now.head);
        for (int entry : branch.entries()) {
            int[] tried = balances.clone();
            if (move(tried, entry)) {
                balances = tried;
                passing.add(entry);
            }
        }
        return passing;
    }

    private void end(int branch, int state) {
        Branch it = now.branches.get(branch);
        now.branches.set(branch, new Branch(it.leaf(), it.entries(), it.pleas(), state));
    }

    int adopt(int branch, int how) {
        if (branch < 0 || branch >= now.branches.size() || how < 0 || how > 1) {
            return INVALID;
        }
        Branch it = now.branches.get(branch);
        List<Integer> passing = passing(it);
        if (!it.waits() || (how == 0 && !passing.equals(it.entries()))) {
            return ILLEGAL;
        }
        if (now.entries.size() + passing.size() > 60) {
            return FULL;
        }
        record();
        for (int entry : passing) {
            Entry old = now.entries.get(entry);
            put(old.kind(), old.first(), old.second(), old.amount(), entry);
        }
        end(branch, 2);
        return passing.size();
    }

    int dismiss(int branch) {
        if (branch < 0 || branch >= now.branches.size()) {
            return INVALID;
        }
        if (!now.branches.get(branch).waits()) {
            return ILLEGAL;
        }
        if (now.entries.size() == 60) {
            return FULL;
        }
        record();
        end(branch, 3);
        return put(4, 0, 0, now.branches.get(branch).leaf(), NONE);
    }

    int forge(int entry, int amount) {
        if (!isEntry(entry) || entry == 0 || amount > 999 || amount < (now.entries.get(entry).kind() == 4 ? 0 : 1)) {
            return INVALID;
        }
        State before = now.copy();
        int previous = now.entries.get(entry).amount();
        set(entry, amount, link(entry));
        boolean less = false;
        for (int any = 0; any < now.entries.size(); any++) {
            for (int balance : balances(any)) {
                less = less || balance < 0;
            }
        }
        State after = now;
        now = before;
        if (less) {
            return ILLEGAL;
        }
        record();
        now = after;
        return previous;
    }

    int relink(int entry) {
        if (!isEntry(entry)) {
            return INVALID;
        }
        record();
        int changed = 0;
        for (int below = 0; below < now.entries.size(); below++) {
            int old = link(below);
            if (path(below).contains(entry)) {
                set(below, now.entries.get(below).amount(), fitting(below));
            }
            changed += link(below) != old ? 1 : 0;
        }
        return changed;
    }

    int seal() {
        if (now.seals.size() == 8) {
            return FULL;
        }
        record();
        now.seals.add(new Seal(now.head, link(now.head)));
        return now.seals.size() - 1;
    }

    int take(int slot) {
        if (slot != 0 && slot != 1) {
            return INVALID;
        }
        record();
        if (slot == 0) {
            left = now.copy();
        } else {
            right = now.copy();
        }
        return now.entries.size();
    }

    int restore(int slot) {
        if (slot != 0 && slot != 1) {
            return INVALID;
        }
        State kept = slot == 0 ? left : right;
        if (kept == null) {
            return ILLEGAL;
        }
        record();
        now = kept.copy();
        return now.entries.size();
    }

    int undo() {
        if (history.isEmpty()) {
            return ILLEGAL;
        }
        Saved saved = history.removeLast();
        now = saved.now();
        left = saved.left();
        right = saved.right();
        return history.size();
    }

    int append(int character) {
        if (character < 1 || character > 255) {
            return INVALID;
        }
        if (text.length() == 100) {
            return FULL;
        }
        return text.append((char) character).length();
    }

    int clearText() {
        int previous = text.length();
        text.setLength(0);
        return previous;
    }

    int check() {
        if (!PROOF.matcher(text).matches()) {
            int fault = 0;
            while (fault < text.length() && BEGUN.matcher(text.substring(0, fault + 1)).matches()) {
                fault++;
            }
            return -1000 - fault;
        }
        String[] numbers = text.toString().split("[:,]");
        List<Integer> chain = chain();
        int place = chain.indexOf(Integer.parseInt(numbers[0]));
        if (place < 0) {
            return INVALID;
        }
        for (int told = 1; told < numbers.length; told++, place++) {
            if (place >= chain.size() || link(chain.get(place)) != Integer.parseInt(numbers[told])) {
                return -1 - (told - 1);
            }
        }
        return numbers.length - 1;
    }

    int count(int what) {
        List<Integer> broken = new ArrayList<>();
        List<Integer> leaves = new ArrayList<>();
        for (int entry = 0; entry < now.entries.size(); entry++) {
            int number = entry;
            if (!fits(entry)) {
                broken.add(entry);
            }
            if (now.entries.stream().noneMatch(other -> other.parent() == number)) {
                leaves.add(entry);
            }
        }
        int brokenSeals = (int) now.seals.stream().filter(seal -> link(seal.entry()) != seal.link()).count();
        int[] counts = {now.entries.size(), now.head, chain().size(), now.branches.size(), waiting().size(), loud(),
            now.patience, now.seals.size(), brokenSeals, broken.size(), broken.isEmpty() ? NONE : broken.get(0),
            leaves.size(), (left == null ? 0 : 1) + (right == null ? 0 : 1), history.size(), text.length()};
        return what < 0 || what >= counts.length ? INVALID : counts[what];
    }

    int entry(int entry, int what) {
        if (!isEntry(entry)) {
            return INVALID;
        }
        Entry it = now.entries.get(entry);
        int sum = 0;
        for (int balance : balances(entry)) {
            sum += balance;
        }
        int[] told = {it.kind(), it.first(), it.second(), it.amount(), it.parent(), it.link(), fits(entry) ? 1 : 0,
            chain().contains(entry) ? 1 : 0, it.origin(), path(entry).size(), sum};
        return what < 0 || what >= told.length ? INVALID : told[what];
    }

    int balance(int account, int entry) {
        return account < 0 || account > 5 || !isEntry(entry) ? INVALID : balances(entry)[account];
    }

    int onChain(int place) {
        if (place < 0) {
            return INVALID;
        }
        List<Integer> chain = chain();
        return place < chain.size() ? chain.get(place) : NONE;
    }

    int branch(int branch, int what) {
        if (branch < 0 || branch >= now.branches.size()) {
            return INVALID;
        }
        Branch it = now.branches.get(branch);
        int[] told = {it.leaf(), it.entries().size(), it.entries().get(0), it.pleas(), isLoud(it) ? 1 : it.state(),
            common(it.leaf(), now.head)};
        return what < 0 || what >= told.length ? INVALID : told[what];
    }

    int sealed(int seal, int what) {
        if (seal < 0 || seal >= now.seals.size()) {
            return INVALID;
        }
        Seal it = now.seals.get(seal);
        int[] told = {it.entry(), it.link(), link(it.entry()) == it.link() ? 1 : 0};
        return what < 0 || what >= told.length ? INVALID : told[what];
    }

    int common(int one, int other) {
        if (!isEntry(one) || !isEntry(other)) {
            return INVALID;
        }
        List<Integer> both = new ArrayList<>(path(one));
        both.retainAll(path(other));
        return both.get(both.size() - 1);
    }

    int failing(int branch, int what) {
        if (branch < 0 || branch >= now.branches.size() || what < 0 || what > 1) {
            return INVALID;
        }
        Branch it = now.branches.get(branch);
        List<Integer> passing = passing(it);
        if (what == 1) {
            return passing.size();
        }
        for (int entry : it.entries()) {
            if (!passing.contains(entry)) {
                return entry;
            }
        }
        return NONE;
    }

    int orders() {
        List<Branch> waiting = waiting();
        return waiting.size() > 5 ? NONE : orders(waiting, balances(now.head));
    }

    private int orders(List<Branch> waiting, int[] balances) {
        if (waiting.isEmpty()) {
            return 1;
        }
        int orders = 0;
        for (Branch next : waiting) {
            int[] then = balances.clone();
            boolean passes = true;
            for (int entry : next.entries()) {
                passes = passes && move(then, entry);
            }
            if (passes) {
                List<Branch> rest = new ArrayList<>(waiting);
                rest.remove(next);
                orders += orders(rest, then);
            }
        }
        return orders;
    }

    int peak(int account, int what) {
        if (account < 0 || account > 5 || what < 0 || what > 1) {
            return INVALID;
        }
        int peak = 0;
        int first = 0;
        for (int entry : chain()) {
            int balance = balances(entry)[account];
            if (balance > peak) {
                peak = balance;
                first = entry;
            }
        }
        return what == 0 ? peak : first;
    }
}
