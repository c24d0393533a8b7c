/** Promises 2 to 5: deposit, pay, fee, note. */
public final class WritingTest {
    private static final int INVALID = OrphanChain.INVALID_ARGUMENT;
    private static final int ILLEGAL = OrphanChain.ILLEGAL_STATE;
    private static final int FULL = OrphanChain.CAPACITY_EXCEEDED;
    private static final int NONE = OrphanChain.NONE;
    private static final int[] FAR = {Integer.MIN_VALUE, -100009, -1, 1000, Integer.MAX_VALUE};

    private WritingTest() {
    }

    public static void main(String[] args) {
        Due due = new Due("WritingTest");
        deposit(due);
        depositErrors(due);
        pay(due);
        payErrors(due);
        payWithLittle(due);
        fee(due);
        feeErrors(due);
        note(due);
        noteErrors(due);
        loudAndFull(due);
        pleas(due);
        links(due);
        due.end();
    }

    private static void told(Due due, String call, OrphanChain x, int entry, int... fields) {
        for (int what = 0; what < fields.length; what++) {
            due.is(call + ", then entry(" + entry + ", " + what + ")", x.entry(entry, what), fields[what]);
        }
    }

    private static void deposit(Due due) {
        OrphanChain x = new OrphanChain();
        due.action("2: deposit(1, 100)", x, () -> x.deposit(1, 100), 1);
        told(due, "2: deposit(1, 100)", x, 1, 1, 0, 1, 100, 0);
        due.action("2: deposit(0, 999)", x, () -> x.deposit(0, 999), 2);
        told(due, "2: deposit(0, 999)", x, 2, 1, 0, 0, 999, 1);
        due.action("2: deposit(5, 1)", x, () -> x.deposit(5, 1), 3);
        told(due, "2: deposit(5, 1)", x, 3, 1, 0, 5, 1, 2);
        due.is("2: head", x.count(1), 3);
        due.is("2: balance(0, 3)", x.balance(0, 3), 999);
        due.is("2: balance(1, 3)", x.balance(1, 3), 100);
        due.is("2: balance(5, 3)", x.balance(5, 3), 1);
        due.is("2: balance(5, 2)", x.balance(5, 2), 0);
        due.is("2: entry(3, 8)", x.entry(3, 8), NONE);
    }

    private static void depositErrors(Due due) {
        for (int wrong : FAR) {
            OrphanChain x = new OrphanChain();
            due.refused("2: deposit(1, " + wrong + ")", x, () -> x.deposit(1, wrong), INVALID);
            due.refused("2: deposit(" + wrong + ", 1)", x, () -> x.deposit(wrong, 1), INVALID);
        }
        OrphanChain x = new OrphanChain();
        due.refused("2: deposit(6, 1)", x, () -> x.deposit(6, 1), INVALID);
        due.refused("2: deposit(1, 0)", x, () -> x.deposit(1, 0), INVALID);
        OrphanChain loud = Make.loud();
        due.refused("2: deposit(1, 1) when loud", loud, () -> loud.deposit(1, 1), ILLEGAL);
        due.refused("2: deposit(6, 1) when loud", loud, () -> loud.deposit(6, 1), INVALID);
        OrphanChain full = Make.entries(60);
        due.refused("2: deposit(1, 1) when full", full, () -> full.deposit(1, 1), FULL);
        due.refused("2: deposit(1, 0) when full", full, () -> full.deposit(1, 0), INVALID);
    }

    private static void pay(Due due) {
        OrphanChain x = new OrphanChain();
        x.deposit(1, 100);
        due.action("3: pay(1, 5, 40)", x, () -> x.pay(1, 5, 40), 2);
        told(due, "3: pay(1, 5, 40)", x, 2, 2, 1, 5, 40, 1);
        due.is("3: balance(1, 2)", x.balance(1, 2), 60);
        due.is("3: balance(5, 2)", x.balance(5, 2), 40);
        due.action("3: pay(5, 2, 1)", x, () -> x.pay(5, 2, 1), 3);
        due.action("3: all that it has", x, () -> x.pay(1, 2, 60), 4);
        due.is("3: balance(1, 4)", x.balance(1, 4), 0);
        due.is("3: balance(2, 4)", x.balance(2, 4), 61);
        due.is("3: entry(4, 8)", x.entry(4, 8), NONE);
        due.is("3: sum of all", x.entry(4, 10), 100);
        OrphanChain most = new OrphanChain();
        most.deposit(4, 999);
        due.is("3: pay(4, 3, 999)", most.pay(4, 3, 999), 2);
    }

    private static void payErrors(Due due) {
        for (int wrong : FAR) {
            OrphanChain x = Make.entries(6);
            due.refused("3: pay(" + wrong + ", 1, 1)", x, () -> x.pay(wrong, 1, 1), INVALID);
            due.refused("3: pay(1, " + wrong + ", 1)", x, () -> x.pay(1, wrong, 1), INVALID);
            due.refused("3: pay(1, 2, " + wrong + ")", x, () -> x.pay(1, 2, wrong), INVALID);
        }
        OrphanChain x = Make.entries(6);
        due.refused("3: pay(0, 1, 1)", x, () -> x.pay(0, 1, 1), INVALID);
        due.refused("3: pay(6, 1, 1)", x, () -> x.pay(6, 1, 1), INVALID);
        due.refused("3: pay(1, 0, 1)", x, () -> x.pay(1, 0, 1), INVALID);
        due.refused("3: pay(1, 6, 1)", x, () -> x.pay(1, 6, 1), INVALID);
        due.refused("3: pay(3, 3, 1)", x, () -> x.pay(3, 3, 1), INVALID);
        due.refused("3: pay(1, 2, 0)", x, () -> x.pay(1, 2, 0), INVALID);
    }

    private static void payWithLittle(Due due) {
        OrphanChain x = new OrphanChain();
        x.deposit(1, 100);
        due.refused("3: pay(1, 2, 101) of 100", x, () -> x.pay(1, 2, 101), ILLEGAL);
        due.refused("3: pay(2, 1, 1) of 0", x, () -> x.pay(2, 1, 1), ILLEGAL);
        due.refused("3: pay(2, 2, 1) of 0", x, () -> x.pay(2, 2, 1), INVALID);
        x.goBack(0);
        due.refused("3: what the head does not have", x, () -> x.pay(1, 2, 1), ILLEGAL);
        OrphanChain loud = Make.loud();
        due.refused("3: pay(1, 2, 1) when loud", loud, () -> loud.pay(1, 2, 1), ILLEGAL);
        due.refused("3: pay(1, 1, 1) when loud", loud, () -> loud.pay(1, 1, 1), INVALID);
        OrphanChain full = Make.entries(60);
        due.refused("3: pay(1, 2, 1) when full", full, () -> full.pay(1, 2, 1), FULL);
        due.refused("3: pay(1, 2, 900) when full", full, () -> full.pay(1, 2, 900), ILLEGAL);
        due.refused("3: pay(1, 2, 0) when full", full, () -> full.pay(1, 2, 0), INVALID);
    }

    private static void fee(Due due) {
        OrphanChain x = new OrphanChain();
        x.deposit(5, 30);
        due.action("4: fee(5, 10)", x, () -> x.fee(5, 10), 2);
        told(due, "4: fee(5, 10)", x, 2, 3, 5, 0, 10, 1);
        due.is("4: balance(5, 2)", x.balance(5, 2), 20);
        due.is("4: balance(0, 2)", x.balance(0, 2), 10);
        due.action("4: all that it has", x, () -> x.fee(5, 20), 3);
        due.is("4: balance(5, 3)", x.balance(5, 3), 0);
        due.is("4: entry(3, 10)", x.entry(3, 10), 30);
        due.is("4: entry(3, 8)", x.entry(3, 8), NONE);
    }

    private static void feeErrors(Due due) {
        for (int wrong : FAR) {
            OrphanChain x = Make.entries(6);
            due.refused("4: fee(" + wrong + ", 1)", x, () -> x.fee(wrong, 1), INVALID);
            due.refused("4: fee(1, " + wrong + ")", x, () -> x.fee(1, wrong), INVALID);
        }
        OrphanChain x = new OrphanChain();
        x.deposit(0, 10);
        x.deposit(1, 5);
        due.refused("4: fee(0, 1)", x, () -> x.fee(0, 1), INVALID);
        due.refused("4: fee(6, 1)", x, () -> x.fee(6, 1), INVALID);
        due.refused("4: fee(1, 0)", x, () -> x.fee(1, 0), INVALID);
        due.refused("4: fee(1, 6) of 5", x, () -> x.fee(1, 6), ILLEGAL);
        OrphanChain loud = Make.loud();
        due.refused("4: fee(1, 1) when loud", loud, () -> loud.fee(1, 1), ILLEGAL);
        due.refused("4: fee(0, 1) when loud", loud, () -> loud.fee(0, 1), INVALID);
        OrphanChain full = Make.entries(60);
        due.refused("4: fee(1, 1) when full", full, () -> full.fee(1, 1), FULL);
        due.refused("4: fee(1, 900) when full", full, () -> full.fee(1, 900), ILLEGAL);
        due.refused("4: fee(6, 900) when full", full, () -> full.fee(6, 900), INVALID);
    }

    private static void note(Due due) {
        OrphanChain x = new OrphanChain();
        x.deposit(2, 8);
        due.action("5: note(0)", x, () -> x.note(0), 2);
        told(due, "5: note(0)", x, 2, 4, 0, 0, 0, 1);
        due.action("5: note(999)", x, () -> x.note(999), 3);
        told(due, "5: note(999)", x, 3, 4, 0, 0, 999, 2);
        due.is("5: balance(0, 3)", x.balance(0, 3), 0);
        due.is("5: balance(2, 3)", x.balance(2, 3), 8);
        due.is("5: entry(3, 10)", x.entry(3, 10), 8);
        due.is("5: entry(3, 8)", x.entry(3, 8), NONE);
    }

    private static void noteErrors(Due due) {
        for (int wrong : FAR) {
            OrphanChain x = new OrphanChain();
            due.refused("5: note(" + wrong + ")", x, () -> x.note(wrong), INVALID);
        }
        OrphanChain loud = Make.loud();
        due.refused("5: note(1) when loud", loud, () -> loud.note(1), ILLEGAL);
        due.refused("5: note(1000) when loud", loud, () -> loud.note(1000), INVALID);
        OrphanChain full = Make.entries(60);
        due.refused("5: note(1) when full", full, () -> full.note(1), FULL);
        due.refused("5: note(-1) when full", full, () -> full.note(-1), INVALID);
    }

    private static void loudAndFull(Due due) {
        OrphanChain x = Make.fullAndLoud();
        due.is("2: entries", x.count(0), 60);
        due.is("2: loud ones", x.count(5), 1);
        due.is("2: deposit(1, 1) when loud and full", x.deposit(1, 1), ILLEGAL);
        due.is("3: pay(1, 2, 1) when loud and full", x.pay(1, 2, 1), ILLEGAL);
        due.is("4: fee(1, 1) when loud and full", x.fee(1, 1), ILLEGAL);
        due.is("5: note(1) when loud and full", x.note(1), ILLEGAL);
        x.setPatience(2);
        due.is("2: deposit(1, 1) when full", x.deposit(1, 1), FULL);
        due.is("3: pay(1, 2, 1) when full", x.pay(1, 2, 1), FULL);
        due.is("4: fee(1, 1) when full", x.fee(1, 1), FULL);
        due.is("5: note(1) when full", x.note(1), FULL);
        due.is("5: the pleas", x.branch(0, 3), 1);
    }

    /** Each of the four makes the pleas of the waiting branches greater, and no refused one does. */
    private static void pleas(Due due) {
        OrphanChain x = new OrphanChain();
        x.deposit(1, 100);
        x.note(7);
        x.goBack(1);
        x.setPatience(5);
        due.is("pleas at first", x.branch(0, 3), 0);
        x.deposit(2, 1);
        due.is("pleas after deposit", x.branch(0, 3), 1);
        x.pay(1, 2, 1);
        due.is("pleas after pay", x.branch(0, 3), 2);
        x.fee(1, 1);
        due.is("pleas after fee", x.branch(0, 3), 3);
        x.fee(1, 999);
        due.is("pleas after a refused fee", x.branch(0, 3), 3);
        x.note(1);
        due.is("pleas after note", x.branch(0, 3), 4);
        due.is("state", x.branch(0, 4), 0);
        due.is("the fifth", x.note(1), 7);
        due.is("state then", x.branch(0, 4), 1);
        due.is("the sixth", x.note(1), ILLEGAL);
        due.is("pleas then", x.branch(0, 3), 5);
    }

    /** By hand: what 31, 7, 11, 13, 17 and 19 times the numbers sum up to, left over by 9973. */
    private static void links(Due due) {
        OrphanChain x = new OrphanChain();
        x.deposit(1, 100);
        due.is("link of 1", x.entry(1, 5), 31 + 7 + 13 + 1700 + 19);
        x.pay(1, 3, 60);
        due.is("link of 2", x.entry(2, 5), (31 * 1770 + 14 + 11 + 39 + 1020 + 38) - 5 * 9973);
        x.fee(3, 20);
        due.is("link of 3", x.entry(3, 5), (31 * 6127 + 21 + 33 + 340 + 57) - 19 * 9973);
        x.note(5);
        due.is("link of 4", x.entry(4, 5), (31 * 901 + 28 + 85 + 76) - 2 * 9973);
        for (int entry = 0; entry <= 4; entry++) {
            due.is("entry(" + entry + ", 6)", x.entry(entry, 6), 1);
        }
    }
}
