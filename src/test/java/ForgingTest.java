/** Promises 10 to 12: forge, relink, seal. */
public final class ForgingTest {
    private static final int INVALID = OrphanChain.INVALID_ARGUMENT;
    private static final int ILLEGAL = OrphanChain.ILLEGAL_STATE;
    private static final int FULL = OrphanChain.CAPACITY_EXCEEDED;
    private static final int NONE = OrphanChain.NONE;
    private static final int[] FAR = {Integer.MIN_VALUE, NONE, -1, 1000, Integer.MAX_VALUE};

    private ForgingTest() {
    }

    public static void main(String[] args) {
        Due due = new Due("ForgingTest");
        forge(due);
        forgeNote(due);
        forgeErrors(due);
        forgeBelowZero(due);
        forgeOfOrphans(due);
        forgeOfPayment(due);
        forgeOfFee(due);
        relink(due);
        relinkOfBranches(due);
        relinkErrors(due);
        seal(due);
        eightSeals(due);
        due.end();
    }

    private static void forge(Due due) {
        OrphanChain x = new OrphanChain();
        x.deposit(1, 100);
        x.deposit(2, 30);
        int first = x.entry(1, 5);
        int second = x.entry(2, 5);
        due.action("10: forge(1, 999)", x, () -> x.forge(1, 999), 100);
        due.is("10: amount", x.entry(1, 3), 999);
        due.is("10: its link stays", x.entry(1, 5), first);
        due.is("10: all others stay", x.entry(2, 5), second);
        due.is("10: it does not fit", x.entry(1, 6), 0);
        due.is("10: the next one fits, as its parent's link is the same", x.entry(2, 6), 1);
        due.is("10: balance(1, 2)", x.balance(1, 2), 999);
        due.is("10: head", x.count(1), 2);
        due.is("10: forge(1, 1)", x.forge(1, 1), 999);
        due.is("10: forge(1, 1)", x.forge(1, 1), 1);
        due.is("10: states", x.count(13), 5);
        due.is("10: forge(1, 100)", x.forge(1, 100), 1);
        due.is("10: it fits again", x.entry(1, 6), 1);
    }

    private static void forgeNote(Due due) {
        OrphanChain x = new OrphanChain();
        x.note(5);
        due.action("10: forge(1, 0) of a note", x, () -> x.forge(1, 0), 5);
        due.is("10: amount", x.entry(1, 3), 0);
        due.is("10: forge(1, 999) of a note", x.forge(1, 999), 0);
        due.is("10: no money", x.entry(1, 10), 0);
        due.refused("10: forge(1, 1000) of a note", x, () -> x.forge(1, 1000), INVALID);
        due.refused("10: forge(1, -1) of a note", x, () -> x.forge(1, -1), INVALID);
    }

    private static void forgeErrors(Due due) {
        OrphanChain x = new OrphanChain();
        x.deposit(1, 100);
        x.pay(1, 2, 100);
        x.fee(2, 100);
        for (int wrong : FAR) {
            due.is("10: forge(" + wrong + ", 1)", x.forge(wrong, 1), INVALID);
            due.is("10: forge(1, " + wrong + ")", x.forge(1, wrong), INVALID);
        }
        due.refused("10: forge(0, 1)", x, () -> x.forge(0, 1), INVALID);
        due.refused("10: forge(0, 0)", x, () -> x.forge(0, 0), INVALID);
        due.refused("10: forge(4, 1)", x, () -> x.forge(4, 1), INVALID);
        due.refused("10: forge(1, 0)", x, () -> x.forge(1, 0), INVALID);
        due.refused("10: forge(2, 0)", x, () -> x.forge(2, 0), INVALID);
        due.refused("10: forge(3, 0)", x, () -> x.forge(3, 0), INVALID);
        due.refused("10: forge(1, 1000)", x, () -> x.forge(1, 1000), INVALID);
    }

    private static void forgeBelowZero(Due due) {
        OrphanChain x = new OrphanChain();
        x.deposit(1, 100);
        x.fee(1, 60);
        x.fee(1, 30);
        x.deposit(1, 500);
        due.refused("10: forge(1, 89)", x, () -> x.forge(1, 89), ILLEGAL);
        due.is("10: forge(1, 90)", x.forge(1, 90), 100);
        due.is("10: balance(1, 3)", x.balance(1, 3), 0);
        due.refused("10: forge(2, 61)", x, () -> x.forge(2, 61), ILLEGAL);
        due.refused("10: forge(3, 31)", x, () -> x.forge(3, 31), ILLEGAL);
        due.is("10: forge(4, 1)", x.forge(4, 1), 500);
        due.is("10: forge(2, 1)", x.forge(2, 1), 60);
        due.is("10: forge(3, 89)", x.forge(3, 89), 30);
        due.is("10: balance(0, 4)", x.balance(0, 4), 90);
    }

    /** The balances of orphans count, and those of entries that are not below do not. */
    private static void forgeOfOrphans(Due due) {
        OrphanChain x = new OrphanChain();
        x.deposit(1, 100);
        x.fee(1, 70);
        x.goBack(1);
        x.fee(1, 10);
        due.refused("10: forge(1, 69)", x, () -> x.forge(1, 69), ILLEGAL);
        due.is("10: forge(1, 70)", x.forge(1, 70), 100);
        due.is("10: forge(3, 70)", x.forge(3, 70), 10);
        due.is("10: forge(3, 71)", x.forge(3, 71), ILLEGAL);
        due.is("10: forge(2, 71), an orphan", x.forge(2, 71), ILLEGAL);
        due.is("10: forge(2, 1), an orphan", x.forge(2, 1), 70);
        due.is("10: balance(1, 3)", x.balance(1, 3), 0);
        due.is("10: balance(1, 2)", x.balance(1, 2), 69);
    }

    private static void forgeOfPayment(Due due) {
        OrphanChain x = new OrphanChain();
        x.deposit(1, 100);
        x.pay(1, 2, 50);
        x.fee(2, 40);
        x.fee(1, 45);
        due.refused("10: forge(2, 39), which the second lacks", x, () -> x.forge(2, 39), ILLEGAL);
        due.refused("10: forge(2, 56), which the first lacks", x, () -> x.forge(2, 56), ILLEGAL);
        due.is("10: forge(2, 55)", x.forge(2, 55), 50);
        due.is("10: balance(1, 4)", x.balance(1, 4), 0);
        due.is("10: balance(2, 4)", x.balance(2, 4), 15);
        due.is("10: forge(2, 40)", x.forge(2, 40), 55);
        due.is("10: balance(1, 4)", x.balance(1, 4), 15);
        due.is("10: balance(2, 4)", x.balance(2, 4), 0);
    }

    private static void forgeOfFee(Due due) {
        OrphanChain x = new OrphanChain();
        x.deposit(3, 10);
        x.fee(3, 10);
        due.is("10: forge(2, 1)", x.forge(2, 1), 10);
        due.is("10: balance(0, 2)", x.balance(0, 2), 1);
        due.is("10: balance(3, 2)", x.balance(3, 2), 9);
        due.refused("10: forge(2, 11)", x, () -> x.forge(2, 11), ILLEGAL);
        x.deposit(3, 900);
        due.refused("10: forge(2, 11), less than 0 at 2 alone", x, () -> x.forge(2, 11), ILLEGAL);
        due.is("10: forge(2, 10)", x.forge(2, 10), 1);
    }

    private static void relink(Due due) {
        OrphanChain x = new OrphanChain();
        x.deposit(1, 2);
        x.deposit(1, 3);
        x.note(4);
        due.action("11: relink(0) of none", x, () -> x.relink(0), 0);
        x.forge(2, 9);
        due.is("11: relink(3), whose link fits", x.relink(3), 0);
        due.is("11: fits", x.entry(2, 6), 0);
        due.action("11: relink(2)", x, () -> x.relink(2), 2);
        int second = (31 * 104 + 7 + 13 + 17 * 9 + 38) % 9973;
        due.is("11: link of 2", x.entry(2, 5), second);
        due.is("11: link of 3", x.entry(3, 5), (31 * second + 28 + 68 + 57) % 9973);
        due.is("11: none is left", x.count(9), 0);
        x.forge(1, 5);
        x.forge(3, 6);
        due.is("11: two do not fit", x.count(9), 2);
        due.is("11: relink(3) of one", x.relink(3), 1);
        due.is("11: relink(1) of three", x.relink(1), 3);
        due.is("11: link of 1", x.entry(1, 5), 31 + 7 + 13 + 85 + 19);
        due.is("11: none is left", x.count(9), 0);
        due.is("11: amounts stay", x.entry(3, 3), 6);
    }

    private static void relinkOfBranches(Due due) {
        OrphanChain x = new OrphanChain();
        x.deposit(1, 50);
        x.deposit(1, 60);
        x.goBack(1);
        x.deposit(1, 70);
        x.note(1);
        x.goBack(0);
        x.note(2);
        int link = x.entry(5, 5);
        x.forge(1, 51);
        x.forge(2, 61);
        due.is("11: relink(2), an orphan", x.relink(2), 1);
        due.is("11: 1 is above", x.entry(1, 6), 0);
        due.is("11: relink(3) of none", x.relink(3), 0);
        due.is("11: relink(1), with both branches", x.relink(1), 4);
        due.is("11: 5 is not below", x.entry(5, 5), link);
        due.is("11: none is left", x.count(9), 0);
        x.forge(5, 3);
        due.is("11: relink(1) of none", x.relink(1), 0);
        due.is("11: relink(0) of all", x.relink(0), 1);
        due.is("11: none is left then", x.count(9), 0);
    }

    private static void relinkErrors(Due due) {
        OrphanChain x = new OrphanChain();
        x.note(1);
        x.forge(1, 2);
        for (int wrong : FAR) {
            due.is("11: relink(" + wrong + ")", x.relink(wrong), INVALID);
        }
        due.refused("11: relink(2)", x, () -> x.relink(2), INVALID);
        due.refused("11: relink(-1)", x, () -> x.relink(-1), INVALID);
    }

    private static void seal(Due due) {
        OrphanChain x = new OrphanChain();
        due.action("12: seal()", x, () -> x.seal(), 0);
        x.deposit(1, 100);
        due.is("12: seal()", x.seal(), 1);
        due.is("12: seal() of the same", x.seal(), 2);
        due.is("12: sealed(0, 0)", x.sealed(0, 0), 0);
        due.is("12: sealed(0, 1)", x.sealed(0, 1), 1);
        due.is("12: sealed(1, 0)", x.sealed(1, 0), 1);
        due.is("12: sealed(1, 1)", x.sealed(1, 1), 1770);
        due.is("12: sealed(2, 0)", x.sealed(2, 0), 1);
        x.forge(1, 3);
        due.is("12: it fits, as the link stays", x.sealed(1, 2), 1);
        due.is("12: seal() of a link that does not fit", x.seal(), 3);
        due.is("12: its link", x.sealed(3, 1), 1770);
        x.relink(1);
        due.is("12: it does not fit", x.sealed(1, 2), 0);
        due.is("12: that of 0 fits", x.sealed(0, 2), 1);
        due.is("12: its link stays", x.sealed(1, 1), 1770);
        due.is("12: three do not fit", x.count(8), 3);
    }

    private static void eightSeals(Due due) {
        OrphanChain x = new OrphanChain();
        for (int seal = 0; seal < 8; seal++) {
            x.note(seal);
            due.is("12: seal()", x.seal(), seal);
        }
        due.refused("12: the ninth", x, () -> x.seal(), FULL);
        due.is("12: seals", x.count(7), 8);
        for (int seal = 0; seal < 8; seal++) {
            due.is("12: sealed(" + seal + ", 0)", x.sealed(seal, 0), seal + 1);
            due.is("12: sealed(" + seal + ", 1)", x.sealed(seal, 1), x.entry(seal + 1, 5));
        }
        due.is("12: undo()", x.undo(), 4);
        due.is("12: room again", x.seal(), 7);
    }
}
