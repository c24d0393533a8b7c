/** Promises 26 to 28: failing, orders, peak. */
public final class CouldBeTest {
    private static final int INVALID = OrphanChain.INVALID_ARGUMENT;
    private static final int NONE = OrphanChain.NONE;
    private static final int[] FAR = {Integer.MIN_VALUE, NONE, -1, 60, Integer.MAX_VALUE};

    private CouldBeTest() {
    }

    public static void main(String[] args) {
        Due due = new Due("CouldBeTest");
        failing(due);
        failingOfAnyState(due);
        failingErrors(due);
        failingWhenFull(due);
        ordersOfNone(due);
        ordersOfOne(due);
        ordersThatDepend(due);
        ordersOfChains(due);
        ordersOfMany(due);
        ordersInsideBranch(due);
        peak(due);
        peakOfBranches(due);
        peakErrors(due);
        due.end();
    }

    /** The branch 0 is 2, 3, 4, 5: fees of 60, 30, a note, a fee of 10; at the head are 35. */
    private static OrphanChain little() {
        OrphanChain x = new OrphanChain();
        x.deposit(1, 100);
        x.fee(1, 60);
        x.fee(1, 30);
        x.note(1);
        x.fee(1, 10);
        x.goBack(1);
        x.fee(1, 65);
        return x;
    }

    private static void failing(Due due) {
        OrphanChain x = little();
        due.is("26: the first that fails", x.failing(0, 0), 2);
        due.is("26: 30 and the note, without 60 and 10", x.failing(0, 1), 2);
        due.is("26: entries", x.count(0), 7);
        due.is("26: no action", x.count(13), 5);
        x.deposit(1, 25);
        due.is("26: the first that fails of 60", x.failing(0, 0), 3);
        due.is("26: 60 and the note", x.failing(0, 1), 2);
        x.setPatience(30);
        x.deposit(1, 39);
        due.is("26: the first that fails of 99", x.failing(0, 0), 5);
        due.is("26: three of 99", x.failing(0, 1), 3);
        x.deposit(1, 1);
        due.is("26: none fails of 100", x.failing(0, 0), NONE);
        due.is("26: four of 100", x.failing(0, 1), 4);
        due.is("26: adopt as told", x.adopt(0, 0), 4);
    }

    private static void failingOfAnyState(Due due) {
        OrphanChain x = little();
        x.adopt(0, 1);
        due.is("26: an adopted one", x.failing(0, 0), 2);
        due.is("26: the note alone of 5", x.failing(0, 1), 1);
        OrphanChain y = little();
        y.dismiss(0);
        due.is("26: a dismissed one", y.failing(0, 0), 2);
        due.is("26: two", y.failing(0, 1), 2);
        y.setPatience(1);
        y.forge(2, 35);
        due.is("26: forged", y.failing(0, 0), 3);
        OrphanChain loud = Make.loud();
        due.is("26: a loud one", loud.failing(0, 0), NONE);
        due.is("26: all of it", loud.failing(0, 1), 1);
    }

    private static void failingErrors(Due due) {
        OrphanChain x = little();
        for (int wrong : FAR) {
            due.is("26: failing(" + wrong + ", 0)", x.failing(wrong, 0), INVALID);
            due.is("26: failing(0, " + wrong + ")", x.failing(0, wrong), INVALID);
        }
        due.refused("26: failing(1, 0)", x, () -> x.failing(1, 0), INVALID);
        due.refused("26: failing(0, 2)", x, () -> x.failing(0, 2), INVALID);
    }

    private static void failingWhenFull(Due due) {
        OrphanChain x = Make.entries(60);
        x.goBack(50);
        due.is("26: none fails when full", x.failing(0, 0), NONE);
        due.is("26: nine could be written but for the room", x.failing(0, 1), 9);
        due.is("27: the number of entries is of no matter", x.orders(), 1);
    }

    private static void ordersOfNone(Due due) {
        OrphanChain x = new OrphanChain();
        due.is("27: no branch", x.orders(), 1);
        x.note(1);
        x.goBack(0);
        x.dismiss(0);
        due.is("27: none is waiting", x.orders(), 1);
        due.is("27: no action", x.count(13), 3);
    }

    private static void ordersOfOne(Due due) {
        OrphanChain x = little();
        due.is("27: one that fails", x.orders(), 0);
        x.setPatience(30);
        x.deposit(1, 65);
        due.is("27: one", x.orders(), 1);
        x.setPatience(1);
        due.is("27: one that is loud", x.orders(), 1);
        x.adopt(0, 0);
        due.is("27: none is left", x.orders(), 1);
    }

    /** A branch of each account pays what another one brings. */
    private static void ordersThatDepend(Due due) {
        OrphanChain x = new OrphanChain();
        x.setPatience(30);
        x.deposit(1, 10);
        x.goBack(0);
        x.deposit(1, 10);
        x.fee(1, 10);
        x.goBack(2);
        x.goBack(0);
        due.is("27: waiting", x.count(4), 3);
        due.is("27: 10, then a fee of 10, then 10 again", x.orders(), 4);
        x.deposit(1, 10);
        due.is("27: with 10 at the head all go", x.orders(), 6);
        x.forge(5, 10);
        x.note(4);
        due.is("27: still", x.orders(), 6);
    }

    /** Each branch needs what the one before it brings, so that one order is left. */
    private static void ordersOfChains(Due due) {
        OrphanChain x = new OrphanChain();
        x.setPatience(30);
        for (int account = 1; account <= 5; account++) {
            x.deposit(account, 10);
            if (account < 5) {
                x.pay(account, account + 1, 10);
            } else {
                x.fee(account, 10);
            }
            x.goBack(2 * account - 1);
            x.goBack(0);
        }
        due.is("27: branches", x.count(3), 10);
        due.is("27: ten are too many", x.orders(), NONE);
        for (int branch = 1; branch < 10; branch += 2) {
            x.dismiss(branch);
        }
        due.is("27: five that pass on 10, of which there is none", x.orders(), 0);
        x.deposit(1, 10);
        due.is("27: one order", x.orders(), 1);
        x.deposit(3, 10);
        // 1, 2 and 3, 4, 5 go in any order that keeps both rows: 10; or 3 waits for what 2 brings:
        // 3 may stand anywhere, as 10 are there, and 4 and 5 behind it
        due.is("27: two rows", x.orders(), 10);
    }

    private static void ordersOfMany(Due due) {
        OrphanChain x = new OrphanChain();
        x.setPatience(30);
        int[] faculties = {1, 1, 2, 6, 24, 120, NONE, NONE};
        for (int waiting = 1; waiting <= 7; waiting++) {
            x.note(waiting);
            x.goBack(0);
            due.is("27: orders of " + waiting, x.orders(), faculties[waiting]);
        }
        x.dismiss(3);
        due.is("27: six", x.orders(), NONE);
        x.adopt(6, 0);
        due.is("27: five of seven", x.orders(), 120);
        x.dismiss(0);
        due.is("27: four of seven", x.orders(), 24);
    }

    /** A branch that fails midway fails, though in sum it brings money. */
    private static void ordersInsideBranch(Due due) {
        OrphanChain x = new OrphanChain();
        x.setPatience(30);
        x.deposit(1, 20);
        x.fee(1, 20);
        x.deposit(1, 50);
        x.goBack(1);
        x.goBack(0);
        due.is("27: the branch of 20 first, then -20 and 50", x.orders(), 1);
        x.deposit(1, 19);
        due.is("27: 19 are too little", x.orders(), 1);
        x.deposit(1, 1);
        due.is("27: 20 are not", x.orders(), 2);
    }

    private static void peak(Due due) {
        OrphanChain x = new OrphanChain();
        x.deposit(1, 50);
        x.deposit(1, 25);
        x.pay(1, 2, 70);
        x.deposit(1, 70);
        x.fee(1, 5);
        due.is("28: peak(1, 0)", x.peak(1, 0), 75);
        due.is("28: the first with it", x.peak(1, 1), 2);
        due.is("28: peak(2, 0)", x.peak(2, 0), 70);
        due.is("28: peak(2, 1)", x.peak(2, 1), 3);
        due.is("28: peak(0, 0)", x.peak(0, 0), 5);
        due.is("28: peak(0, 1)", x.peak(0, 1), 5);
        due.is("28: peak(3, 0)", x.peak(3, 0), 0);
        due.is("28: the first with 0", x.peak(3, 1), 0);
        x.forge(2, 26);
        due.is("28: forged", x.peak(1, 0), 76);
        x.deposit(1, 10);
        due.is("28: a later one", x.peak(1, 0), 81);
        due.is("28: its entry", x.peak(1, 1), 6);
    }

    private static void peakOfBranches(Due due) {
        OrphanChain x = new OrphanChain();
        x.deposit(1, 5);
        x.deposit(1, 500);
        x.goBack(1);
        x.deposit(1, 1);
        due.is("28: without the orphans", x.peak(1, 0), 6);
        due.is("28: behind the orphans", x.peak(1, 1), 3);
        x.goBack(0);
        due.is("28: of the entry 0", x.peak(1, 0), 0);
        due.is("28: the entry 0", x.peak(1, 1), 0);
        due.is("28: no action", x.count(13), 5);
    }

    private static void peakErrors(Due due) {
        OrphanChain x = Make.entries(6);
        for (int wrong : FAR) {
            due.is("28: peak(" + wrong + ", 0)", x.peak(wrong, 0), INVALID);
            due.is("28: peak(1, " + wrong + ")", x.peak(1, wrong), INVALID);
        }
        due.refused("28: peak(6, 0)", x, () -> x.peak(6, 0), INVALID);
        due.refused("28: peak(1, 2)", x, () -> x.peak(1, 2), INVALID);
    }
}
