/** Makes objects that several tests begin with. */
final class Make {
    private Make() {
    }

    /** A chain with one waiting branch, the entry 1, which is loud, and the head 2; patience 1. */
    static OrphanChain loud() {
        OrphanChain chain = new OrphanChain();
        chain.deposit(1, 100);
        chain.goBack(0);
        chain.setPatience(1);
        chain.deposit(1, 50);
        return chain;
    }

    /** A chain of so many entries, all behind one another; the accounts 1 to 5 get money in turn. */
    static OrphanChain entries(int entries) {
        OrphanChain chain = new OrphanChain();
        for (int entry = 1; entry < entries; entry++) {
            chain.deposit((entry - 1) % 5 + 1, 10);
        }
        return chain;
    }

    /** 60 entries: branch 0 with the leaf 58 is loud, and the head is 59, behind 57; patience 1. */
    static OrphanChain fullAndLoud() {
        OrphanChain chain = entries(59);
        chain.goBack(57);
        chain.setPatience(1);
        chain.deposit(1, 10);
        return chain;
    }

    /** Writes so many orphan branches at the entry 0, each of one note, by a great patience. */
    static void branches(OrphanChain chain, int branches) {
        for (int branch = 0; branch < branches; branch++) {
            chain.note(branch);
            chain.goBack(0);
        }
    }

    static void append(OrphanChain chain, String signs) {
        for (int index = 0; index < signs.length(); index++) {
            chain.append(signs.charAt(index));
        }
    }

    static int check(OrphanChain chain, String signs) {
        chain.clearText();
        append(chain, signs);
        return chain.check();
    }
}
