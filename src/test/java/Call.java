import java.util.List;
import java.util.Map;

/** A call of the public face: its name and its arguments. */
record Call(String name, int... args) {
    static final Map<String, Integer> ARGUMENTS = Map.ofEntries(
            Map.entry("deposit", 2), Map.entry("pay", 3), Map.entry("fee", 2), Map.entry("note", 1),
            Map.entry("goBack", 1), Map.entry("setPatience", 1), Map.entry("adopt", 2), Map.entry("dismiss", 1),
            Map.entry("forge", 2), Map.entry("relink", 1), Map.entry("seal", 0),
            Map.entry("take", 1), Map.entry("restore", 1), Map.entry("undo", 0),
            Map.entry("append", 1), Map.entry("clearText", 0), Map.entry("check", 0),
            Map.entry("count", 1), Map.entry("entry", 2), Map.entry("balance", 2), Map.entry("onChain", 1),
            Map.entry("branch", 2), Map.entry("sealed", 2), Map.entry("common", 2),
            Map.entry("failing", 2), Map.entry("orders", 0), Map.entry("peak", 2));
    private static final List<String> ACTIONS = List.of("deposit", "pay", "fee", "note", "goBack", "setPatience",
            "adopt", "dismiss", "forge", "relink", "seal", "take", "restore");
    private static final List<String> OTHER_CHANGES = List.of("undo", "append", "clearText");

    boolean isAction() {
        return ACTIONS.contains(name);
    }

    /** A call that changes nothing, whatever it answers. */
    boolean isLook() {
        return !isAction() && !OTHER_CHANGES.contains(name);
    }

    int answer(OrphanChain chain) {
        switch (name) {
            case "deposit": return chain.deposit(args[0], args[1]);
            case "pay": return chain.pay(args[0], args[1], args[2]);
            case "fee": return chain.fee(args[0], args[1]);
            case "note": return chain.note(args[0]);
            case "goBack": return chain.goBack(args[0]);
            case "setPatience": return chain.setPatience(args[0]);
            case "adopt": return chain.adopt(args[0], args[1]);
            case "dismiss": return chain.dismiss(args[0]);
            case "forge": return chain.forge(args[0], args[1]);
            case "relink": return chain.relink(args[0]);
            case "seal": return chain.seal();
            case "take": return chain.take(args[0]);
            case "restore": return chain.restore(args[0]);
            case "undo": return chain.undo();
            case "append": return chain.append(args[0]);
            case "clearText": return chain.clearText();
            case "check": return chain.check();
            case "count": return chain.count(args[0]);
            case "entry": return chain.entry(args[0], args[1]);
            case "balance": return chain.balance(args[0], args[1]);
            case "onChain": return chain.onChain(args[0]);
            case "branch": return chain.branch(args[0], args[1]);
            case "sealed": return chain.sealed(args[0], args[1]);
            case "common": return chain.common(args[0], args[1]);
            case "failing": return chain.failing(args[0], args[1]);
            case "orders": return chain.orders();
            case "peak": return chain.peak(args[0], args[1]);
            default: throw new IllegalArgumentException(name);
        }
    }

    @Override
    public String toString() {
        StringBuilder words = new StringBuilder(name).append('(');
        for (int at = 0; at < args.length; at++) {
            words.append(at == 0 ? "" : ", ").append(args[at]);
        }
        return words.append(')').toString();
    }
}
