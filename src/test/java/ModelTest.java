import java.util.ArrayList;
import java.util.List;
import java.util.Map;
import java.util.TreeMap;

/** Runs of 512 calls each on an object and on the model, by fixed seeds; all answers are the same. */
public final class ModelTest {
    private static final int RUNS = 1600;
    private static final int CALLS = 512;

    /** How often each call comes up, by the kind of run. */
    private static final String[] NAMES = {"deposit", "pay", "fee", "note", "goBack", "setPatience", "adopt",
        "dismiss", "forge", "relink", "seal", "take", "restore", "undo", "append", "clearText", "check", "count",
        "entry", "balance", "onChain", "branch", "sealed", "common", "failing", "orders", "peak"};
    private static final int[][] WEIGHTS = {
        {8, 6, 6, 4, 4, 3, 4, 2, 4, 3, 1, 1, 1, 1, 2, 1, 4, 6, 6, 4, 2, 5, 2, 2, 4, 5, 4},
        {9, 9, 6, 5, 1, 2, 1, 1, 3, 2, 1, 0, 0, 0, 0, 0, 1, 3, 4, 3, 1, 2, 1, 1, 1, 1, 2},
        {6, 5, 5, 1, 9, 3, 6, 2, 4, 1, 0, 0, 0, 1, 0, 0, 0, 3, 3, 2, 1, 6, 0, 2, 9, 12, 2},
        {3, 3, 3, 2, 3, 3, 2, 1, 3, 3, 2, 6, 8, 9, 1, 0, 1, 9, 6, 4, 3, 4, 3, 2, 1, 2, 2},
        {3, 1, 1, 1, 2, 1, 1, 1, 2, 2, 1, 1, 1, 1, 30, 1, 20, 2, 2, 1, 1, 1, 1, 1, 1, 1, 1}};
    /** Each call with the kinds of answers that the runs must have brought about. */
    private static final String[] MET = {
        "deposit IVSC", "pay IVSC", "fee IVSC", "note IVSC", "goBack IVSC", "setPatience IV", "adopt IVSC",
        "dismiss IVSC", "forge IVS", "relink IV", "seal VC", "take IV", "restore IVS", "undo VS", "append IVC",
        "clearText V", "check IVLF", "count IVN", "entry IVN", "balance IV", "onChain IVN", "branch IV",
        "sealed IV", "common IV", "failing IVN", "orders VN", "peak IV"};

    private final Due due;
    private final Map<String, Integer> met;
    private final int run;
    private final OrphanChain chain = new OrphanChain();
    private final Model model = new Model();
    private final StringBuilder calls = new StringBuilder();
    private long seed;
    private int called = 0;
    private boolean same = true;

    private ModelTest(Due due, Map<String, Integer> met, int run) {
        this.due = due;
        this.met = met;
        this.run = run;
        this.seed = run * 7919L + 17;
    }

    public static void main(String[] args) {
        Due due = new Due("ModelTest");
        Map<String, Integer> met = new TreeMap<>();
        for (int run = 0; run < RUNS; run++) {
            new ModelTest(due, met, run).go();
        }
        for (String row : MET) {
            String name = row.substring(0, row.indexOf(' '));
            for (char kind : row.substring(name.length() + 1).toCharArray()) {
                due.holds(name + " was met with " + kind, met.getOrDefault(name + kind, 0) >= 20);
            }
        }
        due.end();
    }

    private int below(int bound) {
        seed = seed * 6364136223846793005L + 1442695040888963407L;
        return (int) ((seed >>> 33) % bound);
    }

    private int within(int least, int most) {
        return least + below(most - least + 1);
    }

    private int mostly(int least, int most) {
        int chance = below(40);
        if (chance == 0) {
            return least - 1;
        }
        if (chance == 1) {
            return most + 1;
        }
        if (chance == 2) {
            return new int[] {Integer.MIN_VALUE, Integer.MAX_VALUE, OrphanChain.NONE, -1000, 1 << 20}[below(5)];
        }
        return within(least, most);
    }

    private void go() {
        int[] weights = WEIGHTS[run % WEIGHTS.length];
        int sum = 0;
        for (int weight : weights) {
            sum += weight;
        }
        if (below(2) == 0) {
            one("setPatience", 30, 0, 0);
        }
        while (called < CALLS && same) {
            int at = below(sum);
            int which = 0;
            while (at >= weights[which]) {
                at -= weights[which];
                which++;
            }
            choose(NAMES[which]);
        }
        due.holds("run " + run + " goes as the model goes", same);
    }

    private void choose(String name) {
        int entries = model.count(0);
        int branches = Math.max(1, model.count(3));
        int amount = below(3) == 0 ? mostly(1, 999) : mostly(1, 60);
        switch (name) {
            case "deposit": one(name, mostly(0, 5), amount, 0); break;
            case "pay": one(name, mostly(1, 5), mostly(1, 5), amount); break;
            case "fee": one(name, mostly(1, 5), amount, 0); break;
            case "note": one(name, mostly(0, 999), 0, 0); break;
            case "goBack": one(name, goal(entries), 0, 0); break;
            case "setPatience": one(name, mostly(1, 30), 0, 0); break;
            case "adopt": one(name, mostly(0, branches - 1), mostly(0, 1), 0); break;
            case "dismiss": one(name, mostly(0, branches - 1), 0, 0); break;
            case "forge": one(name, mostly(0, entries - 1), below(4) == 0 ? mostly(0, 999) : mostly(0, 50), 0); break;
            case "relink": one(name, mostly(0, entries - 1), 0, 0); break;
            case "take": case "restore": one(name, mostly(0, 1), 0, 0); break;
            case "append": write(); break;
            case "count": one(name, mostly(0, 14), 0, 0); break;
            case "entry": one(name, mostly(0, entries - 1), mostly(0, 10), 0); break;
            case "balance": one(name, mostly(0, 5), mostly(0, entries - 1), 0); break;
            case "onChain": one(name, mostly(0, model.count(2)), 0, 0); break;
            case "branch": one(name, mostly(0, branches - 1), mostly(0, 5), 0); break;
            case "sealed": one(name, mostly(0, Math.max(1, model.count(7)) - 1), mostly(0, 2), 0); break;
            case "common": one(name, mostly(0, entries - 1), mostly(0, entries - 1), 0); break;
            case "failing": one(name, mostly(0, branches - 1), mostly(0, 1), 0); break;
            case "peak": one(name, mostly(0, 5), mostly(0, 1), 0); break;
            default: one(name, 0, 0, 0); break;
        }
    }

    /** An entry to go back to: mostly one that stands late on the chain. */
    private int goal(int entries) {
        if (below(4) == 0) {
            return mostly(0, entries - 1);
        }
        List<Integer> line = model.chain();
        return line.get(Math.max(0, line.size() - 1 - below(5)));
    }

    /** Appends one sign, or a whole proof that is right, or one that is wrong somewhere. */
    private void write() {
        int chance = below(6);
        if (chance == 0) {
            one("append", mostly(1, 255), 0, 0);
            return;
        }
        if (chance == 1) {
            one("append", "0123456789:,,,,".charAt(below(15)), 0, 0);
            return;
        }
        // every tenth run lets the text grow to its end
        if (run % 10 == 9 ? below(8) == 0 : below(8) != 0) {
            one("clearText", 0, 0, 0);
        }
        StringBuilder proof = proof();
        if (below(3) == 0) {
            int at = below(proof.length());
            proof.setCharAt(at, "0123456789:,x/;".charAt(below(15)));
        }
        for (int index = 0; index < proof.length(); index++) {
            one("append", proof.charAt(index), 0, 0);
        }
        one("check", 0, 0, 0);
    }

    private StringBuilder proof() {
        List<Integer> line = new ArrayList<>(model.chain());
        int place = below(line.size());
        int start = below(8) == 0 ? below(model.count(0) + 2) : line.get(place);
        StringBuilder proof = new StringBuilder().append(start);
        int links = 1 + below(6);
        for (int told = 0; told < links; told++) {
            proof.append(told == 0 ? ':' : ',');
            proof.append(place + told < line.size() ? model.link(line.get(place + told)) : below(10000));
        }
        return proof;
    }

    private void one(String name, int a, int b, int c) {
        if (called == CALLS || !same) {
            return;
        }
        called++;
        calls.append(name).append('(').append(a).append(", ").append(b).append(", ").append(c).append(") ");
        int got = new Call(name, a, b, c).answer(chain);
        int want = ofModel(name, a, b, c);
        met.merge(name + kind(name, want), 1, Integer::sum);
        if (got != want) {
            same = false;
            System.out.println("run " + run + " answered " + got + ", due is " + want + ": " + calls);
        }
    }

    private static char kind(String name, int answer) {
        switch (answer) {
            case OrphanChain.INVALID_ARGUMENT: return 'I';
            case OrphanChain.ILLEGAL_STATE: return 'S';
            case OrphanChain.CAPACITY_EXCEEDED: return 'C';
            case OrphanChain.NONE: return 'N';
            default: break;
        }
        if (name.equals("check") && answer < 0) {
            return answer <= -1000 ? 'F' : 'L';
        }
        return 'V';
    }

    private int ofModel(String name, int a, int b, int c) {
        switch (name) {
            case "deposit": return model.deposit(a, b);
            case "pay": return model.pay(a, b, c);
            case "fee": return model.fee(a, b);
            case "note": return model.note(a);
            case "goBack": return model.goBack(a);
            case "setPatience": return model.setPatience(a);
            case "adopt": return model.adopt(a, b);
            case "dismiss": return model.dismiss(a);
            case "forge": return model.forge(a, b);
            case "relink": return model.relink(a);
            case "seal": return model.seal();
            case "take": return model.take(a);
            case "restore": return model.restore(a);
            case "undo": return model.undo();
            case "append": return model.append(a);
            case "clearText": return model.clearText();
            case "check": return model.check();
            case "count": return model.count(a);
            case "entry": return model.entry(a, b);
            case "balance": return model.balance(a, b);
            case "onChain": return model.onChain(a);
            case "branch": return model.branch(a, b);
            case "sealed": return model.sealed(a, b);
            case "common": return model.common(a, b);
            case "failing": return model.failing(a, b);
            case "orders": return model.orders();
            case "peak": return model.peak(a, b);
            default: throw new IllegalArgumentException(name);
        }
    }
}
