/** Promises 19 to 25: count, entry, balance, onChain, branch, sealed, common. */
public final class LookingTest {
    private static final int INVALID = OrphanChain.INVALID_ARGUMENT;
    private static final int NONE = OrphanChain.NONE;
    private static final int[] FAR = {Integer.MIN_VALUE, NONE, -1, 60, Integer.MAX_VALUE};

    private LookingTest() {
    }

    public static void main(String[] args) {
        Due due = new Due("LookingTest");
        count(due);
        countOfLinks(due);
        entry(due);
        balance(due);
        onChain(due);
        branch(due);
        branchStates(due);
        sealed(due);
        common(due);
        lookingIsNoAction(due);
        due.end();
    }

    /**
     * The chain is 0, 1, 3, 6; the branch 0 is 2, adopted as 6, the branch 1 is 4, 5, which is loud,
     * and the entry 7, the branch 2, is dismissed by 8.
     */
    private static OrphanChain forked() {
        OrphanChain x = new OrphanChain();
        x.deposit(1, 100);
        x.pay(1, 2, 40);
        x.goBack(1);
        x.deposit(3, 30);
        x.note(4);
        x.deposit(5, 50);
        x.goBack(3);
        x.adopt(0, 0);
        x.setPatience(1);
        x.note(7);
        x.goBack(6);
        return x;
    }

    private static void count(Due due) {
        OrphanChain x = forked();
        x.seal();
        x.take(0);
        x.append('x');
        int[] counts = {8, 6, 4, 3, 2, 1, 1, 1, 0, 0, NONE, 3, 1, 5, 1};
        for (int what = 0; what < counts.length; what++) {
            due.is("19: count(" + what + ")", x.count(what), counts[what]);
        }
        for (int wrong : new int[] {Integer.MIN_VALUE, NONE, -1, 15, Integer.MAX_VALUE}) {
            due.refused("19: count(" + wrong + ")", x, () -> x.count(wrong), INVALID);
        }
        x.dismiss(2);
        due.is("19: entries", x.count(0), 9);
        due.is("19: chain", x.count(2), 5);
        due.is("19: branches", x.count(3), 3);
        due.is("19: waiting, loud ones, too", x.count(4), 1);
        due.is("19: loud", x.count(5), 1);
        due.is("19: leaves", x.count(11), 4);
        x.goBack(0);
        due.is("19: leaves, without the head", x.count(11), 4);
        x.dismiss(1);
        due.is("19: leaves, with the head", x.count(11), 5);
        due.is("19: chain of two", x.count(2), 2);
    }

    private static void countOfLinks(Due due) {
        OrphanChain x = new OrphanChain();
        x.deposit(1, 10);
        x.deposit(1, 10);
        x.seal();
        x.deposit(1, 10);
        x.seal();
        x.goBack(1);
        x.forge(3, 11);
        due.is("19: one link that does not fit", x.count(9), 1);
        due.is("19: the first", x.count(10), 3);
        x.forge(2, 11);
        due.is("19: two links that do not fit", x.count(9), 2);
        due.is("19: the first", x.count(10), 2);
        due.is("19: all seals fit", x.count(8), 0);
        x.relink(3);
        due.is("19: one seal that does not fit", x.count(8), 1);
        due.is("19: the first of one", x.count(10), 2);
        x.relink(2);
        due.is("19: two seals that do not fit", x.count(8), 2);
        due.is("19: seals", x.count(7), 2);
        due.is("19: none of the links", x.count(9), 0);
        due.is("19: no first", x.count(10), NONE);
    }

    private static void entry(Due due) {
        OrphanChain x = forked();
        int[][] told = {
            {0, 0, 0, 0, NONE, 1, 1, 1, NONE, 1, 0},
            {1, 0, 1, 100, 0, 1770, 1, 1, NONE, 2, 100},
            {2, 1, 2, 40, 1, 0, 1, 0, NONE, 3, 100},
            {1, 0, 3, 30, 1, 0, 1, 1, NONE, 3, 130},
            {4, 0, 0, 4, 3, 0, 1, 0, NONE, 4, 130},
            {1, 0, 5, 50, 4, 0, 1, 0, NONE, 5, 180},
            {2, 1, 2, 40, 3, 0, 1, 1, 2, 4, 130},
            {4, 0, 0, 7, 6, 0, 1, 0, NONE, 5, 130}};
        for (int entry = 0; entry < told.length; entry++) {
            for (int what = 0; what <= 10; what++) {
                if (what != 5 || entry < 2) {
                    due.is("20: entry(" + entry + ", " + what + ")", x.entry(entry, what), told[entry][what]);
                }
            }
        }
        due.is("20: entry(2, 5)", x.entry(2, 5), (31 * 1770 + 14 + 11 + 26 + 680 + 38) % 9973);
        x.forge(2, 41);
        due.is("20: entry(2, 6)", x.entry(2, 6), 0);
        for (int wrong : new int[] {Integer.MIN_VALUE, NONE, -1, 11, Integer.MAX_VALUE}) {
            due.is("20: entry(0, " + wrong + ")", x.entry(0, wrong), INVALID);
        }
        for (int wrong : FAR) {
            due.is("20: entry(" + wrong + ", 0)", x.entry(wrong, 0), INVALID);
        }
        due.refused("20: entry(8, 0)", x, () -> x.entry(8, 0), INVALID);
        due.is("20: entry(8, 11)", x.entry(8, 11), INVALID);
    }

    private static void balance(Due due) {
        OrphanChain x = forked();
        int[][] balances = {
            {0, 0, 0, 0, 0, 0}, {0, 100, 0, 0, 0, 0}, {0, 60, 40, 0, 0, 0}, {0, 100, 0, 30, 0, 0},
            {0, 100, 0, 30, 0, 0}, {0, 100, 0, 30, 0, 50}, {0, 60, 40, 30, 0, 0}, {0, 60, 40, 30, 0, 0}};
        for (int entry = 0; entry < balances.length; entry++) {
            for (int account = 0; account <= 5; account++) {
                due.is("21: balance(" + account + ", " + entry + ")", x.balance(account, entry), balances[entry][account]);
            }
        }
        for (int wrong : FAR) {
            due.is("21: balance(" + wrong + ", 1)", x.balance(wrong, 1), INVALID);
            due.is("21: balance(1, " + wrong + ")", x.balance(1, wrong), INVALID);
        }
        due.refused("21: balance(6, 1)", x, () -> x.balance(6, 1), INVALID);
        due.refused("21: balance(1, 8)", x, () -> x.balance(1, 8), INVALID);
        OrphanChain most = new OrphanChain();
        for (int entry = 1; entry < 60; entry++) {
            most.deposit(1, 999);
        }
        due.is("21: the most", most.balance(1, 59), 59 * 999);
        due.is("21: in the midst", most.balance(1, 30), 30 * 999);
    }

    private static void onChain(Due due) {
        OrphanChain x = forked();
        int[] chain = {0, 1, 3, 6, NONE, NONE};
        for (int place = 0; place < chain.length; place++) {
            due.is("22: onChain(" + place + ")", x.onChain(place), chain[place]);
        }
        due.is("22: onChain(MAX_VALUE)", x.onChain(Integer.MAX_VALUE), NONE);
        due.is("22: onChain(60)", x.onChain(60), NONE);
        due.refused("22: onChain(-1)", x, () -> x.onChain(-1), INVALID);
        due.refused("22: onChain(MIN_VALUE)", x, () -> x.onChain(Integer.MIN_VALUE), INVALID);
        OrphanChain full = Make.entries(60);
        due.is("22: onChain(59)", full.onChain(59), 59);
        due.is("22: onChain(60) of 60", full.onChain(60), NONE);
        full.goBack(20);
        due.is("22: onChain(20)", full.onChain(20), 20);
        due.is("22: onChain(21)", full.onChain(21), NONE);
    }

    private static void branch(Due due) {
        OrphanChain x = forked();
        int[][] told = {{2, 1, 2, 3, 2, 1}, {5, 2, 4, 1, 1, 3}, {7, 1, 7, 0, 0, 6}};
        for (int branch = 0; branch < told.length; branch++) {
            for (int what = 0; what <= 5; what++) {
                due.is("23: branch(" + branch + ", " + what + ")", x.branch(branch, what), told[branch][what]);
            }
        }
        x.goBack(0);
        due.is("23: the latest entry of the branch 1 on the chain", x.branch(1, 5), 0);
        due.is("23: its entries are those that they were", x.branch(1, 1), 2);
        due.is("23: the first of them, too", x.branch(1, 2), 4);
        due.is("23: those of the last branch", x.branch(3, 1), 3);
        due.is("23: the first of them", x.branch(3, 2), 1);
        for (int wrong : FAR) {
            due.is("23: branch(" + wrong + ", 0)", x.branch(wrong, 0), INVALID);
            due.is("23: branch(0, " + wrong + ")", x.branch(0, wrong), INVALID);
        }
        due.refused("23: branch(4, 0)", x, () -> x.branch(4, 0), INVALID);
        due.refused("23: branch(0, 6)", x, () -> x.branch(0, 6), INVALID);
    }

    private static void branchStates(Due due) {
        OrphanChain x = forked();
        x.dismiss(2);
        due.is("23: dismissed", x.branch(2, 4), 3);
        due.is("23: adopted", x.branch(0, 4), 2);
        due.is("23: loud", x.branch(1, 4), 1);
        x.setPatience(2);
        due.is("23: waiting", x.branch(1, 4), 0);
        x.note(1);
        due.is("23: loud by the second plea", x.branch(1, 4), 1);
        due.is("23: pleas", x.branch(1, 3), 2);
        x.dismiss(1);
        due.is("23: no more", x.branch(1, 4), 3);
        due.is("23: pleas stay", x.branch(1, 3), 2);
    }

    private static void sealed(Due due) {
        OrphanChain x = new OrphanChain();
        x.deposit(1, 100);
        x.seal();
        x.note(2);
        x.seal();
        x.forge(2, 3);
        x.relink(2);
        int[][] told = {{1, 1770, 1}, {2, (31 * 1770 + 28 + 34 + 38) % 9973, 0}};
        for (int seal = 0; seal < told.length; seal++) {
            for (int what = 0; what <= 2; what++) {
                due.is("24: sealed(" + seal + ", " + what + ")", x.sealed(seal, what), told[seal][what]);
            }
        }
        for (int wrong : FAR) {
            due.is("24: sealed(" + wrong + ", 0)", x.sealed(wrong, 0), INVALID);
            due.is("24: sealed(0, " + wrong + ")", x.sealed(0, wrong), INVALID);
        }
        due.refused("24: sealed(2, 0)", x, () -> x.sealed(2, 0), INVALID);
        due.refused("24: sealed(0, 3)", x, () -> x.sealed(0, 3), INVALID);
        x.forge(2, 2);
        x.relink(0);
        due.is("24: it fits again", x.sealed(1, 2), 1);
    }

    private static void common(Due due) {
        OrphanChain x = forked();
        int[][] told = {{0, 0, 0}, {0, 7, 0}, {1, 1, 1}, {2, 3, 1}, {2, 7, 1}, {5, 6, 3}, {5, 2, 1}, {3, 7, 3},
            {4, 5, 4}, {7, 7, 7}, {6, 7, 6}};
        for (int[] row : told) {
            due.is("25: common(" + row[0] + ", " + row[1] + ")", x.common(row[0], row[1]), row[2]);
            due.is("25: common(" + row[1] + ", " + row[0] + ")", x.common(row[1], row[0]), row[2]);
        }
        for (int wrong : FAR) {
            due.is("25: common(" + wrong + ", 0)", x.common(wrong, 0), INVALID);
            due.is("25: common(0, " + wrong + ")", x.common(0, wrong), INVALID);
            due.is("25: common(" + wrong + ", itself)", x.common(wrong, wrong), INVALID);
        }
        due.refused("25: common(8, 1)", x, () -> x.common(8, 1), INVALID);
        OrphanChain full = Make.entries(60);
        due.is("25: common(0, 59)", full.common(0, 59), 0);
        due.is("25: common(58, 59)", full.common(58, 59), 58);
        full.goBack(58);
        OrphanChain wide = Make.entries(31);
        wide.goBack(0);
        wide.setPatience(30);
        for (int code = 0; code < 29; code++) {
            wide.note(code);
        }
        due.is("25: common(30, 59)", wide.common(30, 59), 0);
        due.is("25: common(59, 31)", wide.common(59, 31), 31);
    }

    private static void lookingIsNoAction(Due due) {
        OrphanChain x = new OrphanChain();
        x.note(1);
        x.seal();
        x.goBack(0);
        for (int what = 0; what <= 5; what++) {
            x.count(what);
            x.entry(1, what);
            x.balance(what, 1);
            x.onChain(what);
            x.branch(0, what);
            x.sealed(0, what);
            x.common(0, 1);
            x.failing(0, what);
            x.orders();
            x.peak(what, 1);
        }
        due.is("no state by looking", x.count(13), 3);
        due.is("undo()", x.undo(), 2);
        due.is("head", x.count(1), 1);
    }
}
