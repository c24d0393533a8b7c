/** Promises 6 to 9: goBack, setPatience, adopt, dismiss. */
public final class BranchesTest {
    private static final int INVALID = OrphanChain.INVALID_ARGUMENT;
    private static final int ILLEGAL = OrphanChain.ILLEGAL_STATE;
    private static final int FULL = OrphanChain.CAPACITY_EXCEEDED;
    private static final int NONE = OrphanChain.NONE;
    private static final int[] FAR = {Integer.MIN_VALUE, NONE, -1, 60, Integer.MAX_VALUE};

    private BranchesTest() {
    }

    public static void main(String[] args) {
        Due due = new Due("BranchesTest");
        goBack(due);
        goBackErrors(due);
        tenBranches(due);
        setPatience(due);
        adopt(due);
        adoptOfFailing(due);
        adoptOfNothing(due);
        adoptErrors(due);
        adoptWithoutRoom(due);
        adoptWhatWasAdopted(due);
        dismiss(due);
        dismissErrors(due);
        due.end();
    }

    private static void goBack(Due due) {
        OrphanChain x = new OrphanChain();
        x.setPatience(30);
        x.note(1);
        x.note(2);
        x.note(3);
        due.action("6: goBack(3), the head", x, () -> x.goBack(3), 0);
        due.is("6: no branch of it", x.count(3), 0);
        due.is("6: goBack(1)", x.goBack(1), 0);
        due.is("6: head", x.count(1), 1);
        due.is("6: entries", x.count(0), 4);
        due.is("6: branches", x.count(3), 1);
        due.is("6: leaf", x.branch(0, 0), 3);
        due.is("6: its entries", x.branch(0, 1), 2);
        due.is("6: the first of these", x.branch(0, 2), 2);
        due.is("6: pleas", x.branch(0, 3), 0);
        due.is("6: state", x.branch(0, 4), 0);
        due.is("6: goBack(1), the head with a branch", x.goBack(1), 1);
        due.is("6: states", x.count(13), 5);
        due.is("6: note(4)", x.note(4), 4);
        due.is("6: parent", x.entry(4, 4), 1);
        due.is("6: goBack(0)", x.goBack(0), 1);
        due.is("6: leaf of the second", x.branch(1, 0), 4);
        due.is("6: entries of the second", x.branch(1, 1), 2);
        due.is("6: first of the second", x.branch(1, 2), 1);
        due.is("6: undo()", x.undo(), 4);
        due.is("6: head again", x.count(1), 4);
        due.is("6: branches again", x.count(3), 1);
    }

    private static void goBackErrors(Due due) {
        OrphanChain x = new OrphanChain();
        x.note(1);
        x.note(2);
        x.goBack(1);
        for (int wrong : FAR) {
            due.is("6: goBack(" + wrong + ")", x.goBack(wrong), INVALID);
        }
        due.refused("6: goBack(3)", x, () -> x.goBack(3), INVALID);
        due.refused("6: goBack(2)", x, () -> x.goBack(2), ILLEGAL);
        due.is("6: goBack(1)", x.goBack(1), 1);
    }

    private static void tenBranches(Due due) {
        OrphanChain x = new OrphanChain();
        x.setPatience(30);
        Make.branches(x, 10);
        due.is("6: branches", x.count(3), 10);
        due.is("6: goBack(0), the head", x.goBack(0), 10);
        due.is("6: note(1)", x.note(1), 11);
        due.refused("6: goBack(0)", x, () -> x.goBack(0), FULL);
        due.refused("6: goBack(10)", x, () -> x.goBack(10), ILLEGAL);
        due.refused("6: goBack(12)", x, () -> x.goBack(12), INVALID);
        due.is("6: goBack(11), the head", x.goBack(11), 10);
        for (int branch = 0; branch < 10; branch++) {
            due.is("6: leaf of " + branch, x.branch(branch, 0), branch + 1);
            due.is("6: pleas of " + branch, x.branch(branch, 3), 10 - branch);
        }
        due.is("6: dismiss(0)", x.dismiss(0), 12);
        due.is("6: still ten", x.goBack(0), FULL);
    }

    private static void setPatience(Due due) {
        OrphanChain x = new OrphanChain();
        due.action("7: setPatience(1)", x, () -> x.setPatience(1), 3);
        due.is("7: count(6)", x.count(6), 1);
        due.is("7: setPatience(30)", x.setPatience(30), 1);
        due.is("7: setPatience(30)", x.setPatience(30), 30);
        due.is("7: states", x.count(13), 3);
        for (int wrong : new int[] {Integer.MIN_VALUE, -1, 0, 31, Integer.MAX_VALUE}) {
            due.is("7: setPatience(" + wrong + ")", x.setPatience(wrong), INVALID);
        }
        due.refused("7: setPatience(0)", x, () -> x.setPatience(0), INVALID);
        due.refused("7: setPatience(31)", x, () -> x.setPatience(31), INVALID);
        x.note(1);
        x.goBack(0);
        x.note(2);
        x.note(3);
        due.is("7: not loud by 2 of 30", x.branch(0, 4), 0);
        x.setPatience(3);
        due.is("7: not loud by 2 of 3", x.count(5), 0);
        x.setPatience(2);
        due.is("7: loud by 2 of 2", x.count(5), 1);
        due.is("7: nothing is written", x.note(4), ILLEGAL);
        x.setPatience(1);
        due.is("7: loud by 2 of 1", x.branch(0, 4), 1);
        x.setPatience(3);
        due.is("7: loud no more", x.branch(0, 4), 0);
        due.is("7: written", x.note(4), 4);
    }

    private static void adopt(Due due) {
        OrphanChain x = new OrphanChain();
        x.deposit(1, 100);
        x.pay(1, 2, 30);
        x.fee(1, 20);
        x.note(9);
        x.goBack(1);
        x.deposit(3, 5);
        x.note(1);
        x.note(2);
        due.is("8: loud", x.branch(0, 4), 1);
        due.action("8: adopt(0, 0), which is loud", x, () -> x.adopt(0, 0), 3);
        due.is("8: head", x.count(1), 10);
        due.is("8: entries", x.count(0), 11);
        due.is("8: state", x.branch(0, 4), 2);
        due.is("8: pleas", x.branch(0, 3), 3);
        int[][] anew = {{2, 1, 2, 30, 7}, {3, 1, 0, 20, 8}, {4, 0, 0, 9, 9}};
        for (int place = 0; place < 3; place++) {
            for (int what = 0; what < 5; what++) {
                due.is("8: entry(" + (8 + place) + ", " + what + ")", x.entry(8 + place, what), anew[place][what]);
            }
            due.is("8: fits", x.entry(8 + place, 6), 1);
            due.is("8: entry(" + (8 + place) + ", 8)", x.entry(8 + place, 8), 2 + place);
        }
        due.is("8: balance(1, 10)", x.balance(1, 10), 50);
        due.is("8: balance(2, 10)", x.balance(2, 10), 30);
        due.is("8: balance(0, 10)", x.balance(0, 10), 20);
        due.is("8: balance(3, 10)", x.balance(3, 10), 5);
        due.is("8: note(4), as none is loud", x.note(4), 11);
        due.is("8: pleas no more", x.branch(0, 3), 3);
    }

    private static void adoptOfFailing(Due due) {
        OrphanChain x = new OrphanChain();
        x.deposit(1, 250);
        x.pay(1, 2, 100);
        x.fee(2, 100);
        x.goBack(0);
        due.is("8: adopt(0, 0), which brings its own money", x.adopt(0, 0), 3);
        due.is("8: balance(1, 6)", x.balance(1, 6), 150);
        OrphanChain z = new OrphanChain();
        z.deposit(1, 100);
        z.pay(1, 2, 60);
        z.fee(2, 30);
        z.fee(1, 40);
        z.goBack(1);
        z.fee(1, 50);
        due.refused("8: adopt(0, 0) of 60 at 50", z, () -> z.adopt(0, 0), ILLEGAL);
        due.action("8: adopt(0, 1)", z, () -> z.adopt(0, 1), 1);
        due.is("8: what was written", z.entry(6, 3), 40);
        due.is("8: of which", z.entry(6, 8), 4);
        due.is("8: behind the head", z.entry(6, 4), 5);
        due.is("8: balance(1, 6)", z.balance(1, 6), 10);
        due.is("8: state", z.branch(0, 4), 2);
        due.is("8: entries of the branch", z.branch(0, 1), 3);
    }

    private static void adoptOfNothing(Due due) {
        OrphanChain x = new OrphanChain();
        x.deposit(1, 5);
        x.fee(1, 5);
        x.goBack(1);
        x.fee(1, 1);
        due.refused("8: adopt(0, 0)", x, () -> x.adopt(0, 0), ILLEGAL);
        due.action("8: adopt(0, 1) of none", x, () -> x.adopt(0, 1), 0);
        due.is("8: head", x.count(1), 3);
        due.is("8: entries", x.count(0), 4);
        due.is("8: state", x.branch(0, 4), 2);
        due.is("8: exactly what is there", exact().adopt(0, 0), 1);
    }

    /** The branch 0 is a fee of 5, and at the head are 5. */
    private static OrphanChain exact() {
        OrphanChain x = new OrphanChain();
        x.deposit(1, 5);
        x.fee(1, 5);
        x.goBack(1);
        return x;
    }

    private static void adoptErrors(Due due) {
        OrphanChain x = exact();
        for (int wrong : FAR) {
            due.is("8: adopt(" + wrong + ", 0)", x.adopt(wrong, 0), INVALID);
            due.is("8: adopt(0, " + wrong + ")", x.adopt(0, wrong), INVALID);
        }
        due.refused("8: adopt(1, 0)", x, () -> x.adopt(1, 0), INVALID);
        due.refused("8: adopt(0, 2)", x, () -> x.adopt(0, 2), INVALID);
        x.adopt(0, 0);
        due.refused("8: adopt(0, 0) again", x, () -> x.adopt(0, 0), ILLEGAL);
        due.refused("8: adopt(0, 1) again", x, () -> x.adopt(0, 1), ILLEGAL);
        due.refused("8: adopt(0, 2) again", x, () -> x.adopt(0, 2), INVALID);
        OrphanChain y = exact();
        y.dismiss(0);
        due.refused("8: adopt(0, 1) of a dismissed one", y, () -> y.adopt(0, 1), ILLEGAL);
    }

    /** 59 entries; the branch 0 is 57 and 58, a fee of 10 and one of 5 of the account 1, the head 56. */
    private static OrphanChain narrow() {
        OrphanChain x = new OrphanChain();
        x.deposit(1, 15);
        for (int entry = 2; entry <= 56; entry++) {
            x.note(entry);
        }
        x.fee(1, 10);
        x.fee(1, 5);
        x.goBack(56);
        return x;
    }

    private static void adoptWithoutRoom(Due due) {
        OrphanChain x = narrow();
        due.refused("8: adopt(0, 0) of 2 at 59", x, () -> x.adopt(0, 0), FULL);
        due.refused("8: adopt(0, 1) of 2 at 59", x, () -> x.adopt(0, 1), FULL);
        due.refused("8: adopt(0, 2) at 59", x, () -> x.adopt(0, 2), INVALID);
        OrphanChain y = narrow();
        y.goBack(0);
        due.is("8: adopt(0, 0) of 2 that fail", y.adopt(0, 0), ILLEGAL);
        due.is("8: adopt(0, 1) of none", y.adopt(0, 1), 0);
        due.is("8: entries", y.count(0), 59);
        OrphanChain z = new OrphanChain();
        z.deposit(1, 15);
        z.fee(1, 10);
        z.fee(1, 5);
        z.goBack(1);
        z.setPatience(30);
        z.fee(1, 10);
        z.adopt(0, 1);
        due.is("8: the fee of 5 alone", z.entry(5, 8), 3);
        OrphanChain last = new OrphanChain();
        last.deposit(1, 15);
        for (int entry = 2; entry <= 55; entry++) {
            last.note(entry);
        }
        last.fee(1, 10);
        last.fee(1, 5);
        last.goBack(55);
        last.fee(1, 10);
        due.is("8: entries", last.count(0), 59);
        due.is("8: those left out do not count", last.adopt(0, 1), 1);
        due.is("8: entries then", last.count(0), 60);
        due.is("8: of which", last.entry(59, 8), 57);
        OrphanChain fits = Make.entries(58);
        fits.goBack(55);
        due.is("8: adopt(0, 0) of 2 at 58", fits.adopt(0, 0), 2);
        due.is("8: entries then", fits.count(0), 60);
        due.is("8: of which the last", fits.entry(59, 8), 57);
    }

    private static void adoptWhatWasAdopted(Due due) {
        OrphanChain x = new OrphanChain();
        x.setPatience(30);
        x.deposit(1, 10);
        x.goBack(0);
        x.adopt(0, 0);
        due.is("8: of which", x.entry(2, 8), 1);
        x.note(5);
        x.goBack(0);
        x.forge(2, 70);
        due.is("8: adopt(1, 0)", x.adopt(1, 0), 2);
        due.is("8: of which then", x.entry(4, 8), 2);
        due.is("8: the amount as it is forged", x.entry(4, 3), 70);
        due.is("8: a link that fits", x.entry(4, 6), 1);
        due.is("8: one that does not", x.entry(2, 6), 0);
        due.is("8: of which the last", x.entry(5, 8), 3);
        due.is("8: balance(1, 5)", x.balance(1, 5), 70);
    }

    private static void dismiss(Due due) {
        OrphanChain x = Make.loud();
        x.goBack(0);
        due.is("9: waiting", x.count(4), 2);
        due.action("9: dismiss(0), which is loud", x, () -> x.dismiss(0), 3);
        int[] told = {4, 0, 0, 1, 0};
        for (int what = 0; what < told.length; what++) {
            due.is("9: entry(3, " + what + ")", x.entry(3, what), told[what]);
        }
        due.is("9: fits", x.entry(3, 6), 1);
        due.is("9: entry(3, 8)", x.entry(3, 8), NONE);
        due.is("9: head", x.count(1), 3);
        due.is("9: state", x.branch(0, 4), 3);
        due.is("9: pleas", x.branch(0, 3), 1);
        due.is("9: pleas of the other", x.branch(1, 3), 0);
        due.is("9: note(1), as none is loud", x.note(1), 4);
        due.is("9: pleas of the other then", x.branch(1, 3), 1);
        due.is("9: pleas no more", x.branch(0, 3), 1);
        due.is("9: dismiss(1)", x.dismiss(1), 5);
        due.is("9: the code is its leaf", x.entry(5, 3), 2);
        due.is("9: waiting then", x.count(4), 0);
    }

    private static void dismissErrors(Due due) {
        OrphanChain x = exact();
        for (int wrong : FAR) {
            due.is("9: dismiss(" + wrong + ")", x.dismiss(wrong), INVALID);
        }
        due.refused("9: dismiss(1)", x, () -> x.dismiss(1), INVALID);
        x.dismiss(0);
        due.refused("9: dismiss(0) again", x, () -> x.dismiss(0), ILLEGAL);
        OrphanChain y = exact();
        y.adopt(0, 0);
        due.refused("9: dismiss(0) of an adopted one", y, () -> y.dismiss(0), ILLEGAL);
        OrphanChain full = Make.entries(60);
        full.goBack(58);
        full.goBack(57);
        due.refused("9: dismiss(0) when full", full, () -> full.dismiss(0), FULL);
        due.refused("9: dismiss(2) when full", full, () -> full.dismiss(2), INVALID);
        OrphanChain gone = Make.entries(59);
        gone.goBack(57);
        due.is("9: the last room", gone.dismiss(0), 59);
        due.refused("9: dismiss(0) again when full", gone, () -> gone.dismiss(0), ILLEGAL);
    }
}
