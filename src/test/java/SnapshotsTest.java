/** Promises 13 to 15: take, restore, undo. */
public final class SnapshotsTest {
    private static final int INVALID = OrphanChain.INVALID_ARGUMENT;
    private static final int ILLEGAL = OrphanChain.ILLEGAL_STATE;
    private static final int[] WRONG = {Integer.MIN_VALUE, OrphanChain.NONE, -1, 2, Integer.MAX_VALUE};

    private SnapshotsTest() {
    }

    public static void main(String[] args) {
        Due due = new Due("SnapshotsTest");
        take(due);
        restore(due);
        restoreOfAll(due);
        slotsAndHistory(due);
        undo(due);
        undoOfText(due);
        undoOfRefused(due);
        undoOfSlots(due);
        undoAfterMany(due);
        due.end();
    }

    private static void take(Due due) {
        OrphanChain x = new OrphanChain();
        x.note(1);
        due.action("13: take(1)", x, () -> x.take(1), 2);
        due.is("13: snapshots", x.count(12), 1);
        due.is("13: the other slot is empty", x.restore(0), ILLEGAL);
        due.is("13: take(0)", x.take(0), 2);
        due.is("13: snapshots", x.count(12), 2);
        x.note(2);
        due.is("13: take(0) in place of it", x.take(0), 3);
        due.is("13: snapshots", x.count(12), 2);
        for (int wrong : WRONG) {
            due.is("13: take(" + wrong + ")", x.take(wrong), INVALID);
        }
        due.refused("13: take(2)", x, () -> x.take(2), INVALID);
        due.is("13: restore(1)", x.restore(1), 2);
        due.is("13: restore(0)", x.restore(0), 3);
    }

    private static void restore(Due due) {
        OrphanChain x = new OrphanChain();
        due.refused("14: restore(0) of an empty one", x, () -> x.restore(0), ILLEGAL);
        x.note(1);
        x.take(0);
        x.note(2);
        x.note(3);
        due.action("14: restore(0)", x, () -> x.restore(0), 2);
        due.is("14: head", x.count(1), 1);
        due.is("14: it stays", x.count(12), 1);
        due.is("14: note(4)", x.note(4), 2);
        due.is("14: entry(2, 3)", x.entry(2, 3), 4);
        due.is("14: restore(0) once more", x.restore(0), 2);
        due.is("14: there is no entry 2", x.entry(2, 3), INVALID);
        for (int wrong : WRONG) {
            due.is("14: restore(" + wrong + ")", x.restore(wrong), INVALID);
        }
        due.refused("14: restore(-1)", x, () -> x.restore(-1), INVALID);
        due.refused("14: restore(2)", x, () -> x.restore(2), INVALID);
        due.refused("14: restore(1)", x, () -> x.restore(1), ILLEGAL);
    }

    private static void restoreOfAll(Due due) {
        OrphanChain x = new OrphanChain();
        x.deposit(1, 100);
        x.fee(1, 10);
        x.seal();
        x.goBack(1);
        x.setPatience(5);
        x.note(7);
        x.take(1);
        x.append('7');
        x.forge(2, 90);
        x.relink(2);
        x.seal();
        x.setPatience(9);
        x.note(8);
        x.adopt(0, 0);
        x.goBack(0);
        due.is("14: restore(1)", x.restore(1), 4);
        int[] counts = {4, 3, 3, 1, 1, 0, 5, 1, 0, 0, OrphanChain.NONE, 2, 1, 5, 1};
        for (int what = 0; what < counts.length; what++) {
            due.is("14: count(" + what + ")", x.count(what), counts[what]);
        }
        due.is("14: amount", x.entry(2, 3), 10);
        due.is("14: link", x.entry(2, 6), 1);
        due.is("14: pleas", x.branch(0, 3), 1);
        due.is("14: state", x.branch(0, 4), 0);
        due.is("14: seal", x.sealed(0, 2), 1);
        due.is("14: no second seal", x.sealed(1, 0), INVALID);
        due.is("14: no second branch", x.branch(1, 0), INVALID);
        due.is("14: onChain(2)", x.onChain(2), 3);
        due.is("14: the text stays", x.check(), -1001);
    }

    private static void slotsAndHistory(Due due) {
        OrphanChain x = new OrphanChain();
        x.take(0);
        x.note(1);
        x.take(1);
        x.note(2);
        due.is("14: restore(0) keeps the slot 1", x.restore(0), 1);
        due.is("14: snapshots", x.count(12), 2);
        due.is("14: the history goes on", x.count(13), 5);
        due.is("14: restore(1)", x.restore(1), 2);
        due.is("14: restore(0) again", x.restore(0), 1);
    }

    private static void undo(Due due) {
        OrphanChain x = new OrphanChain();
        due.refused("15: undo() of none", x, () -> x.undo(), ILLEGAL);
        for (int code = 1; code <= 7; code++) {
            x.note(code);
            due.is("15: states", x.count(13), Math.min(5, code));
        }
        for (int left = 4; left >= 0; left--) {
            due.is("15: undo()", x.undo(), left);
            due.is("15: states", x.count(13), left);
            due.is("15: entries", x.count(0), 3 + left);
            due.is("15: head", x.count(1), 2 + left);
        }
        due.refused("15: undo() of none any more", x, () -> x.undo(), ILLEGAL);
        due.is("15: note(8)", x.note(8), 3);
        due.is("15: undo()", x.undo(), 0);
        due.is("15: entries", x.count(0), 3);
    }

    private static void undoOfText(Due due) {
        OrphanChain x = new OrphanChain();
        x.note(1);
        Make.append(x, "0:1");
        due.is("15: no action records", x.count(13), 1);
        x.check();
        x.clearText();
        x.append('9');
        due.is("15: no state", x.count(13), 1);
        due.is("15: undo()", x.undo(), 0);
        due.is("15: the text stays", x.count(14), 1);
        due.is("15: undo() of the text", x.undo(), ILLEGAL);
    }

    private static void undoOfRefused(Due due) {
        OrphanChain x = new OrphanChain();
        x.note(1);
        x.note(1000);
        x.fee(1, 1);
        x.goBack(5);
        x.setPatience(0);
        x.adopt(0, 0);
        x.dismiss(0);
        x.forge(0, 1);
        x.relink(9);
        x.take(2);
        x.restore(0);
        x.entry(0, 0);
        x.orders();
        x.peak(1, 1);
        due.is("15: one state", x.count(13), 1);
        due.is("15: undo()", x.undo(), 0);
        due.is("15: entries", x.count(0), 1);
    }

    private static void undoOfSlots(Due due) {
        OrphanChain x = new OrphanChain();
        x.note(1);
        x.take(0);
        x.note(2);
        x.take(0);
        due.is("15: undo() of take", x.undo(), 3);
        due.is("15: the slot as it was", x.restore(0), 2);
        due.is("15: undo() of restore", x.undo(), 3);
        due.is("15: entries", x.count(0), 3);
        x.undo();
        x.undo();
        due.is("15: the slot is empty again", x.count(12), 0);
        due.is("15: restore(0)", x.restore(0), ILLEGAL);
        due.is("15: the first state is left", x.count(13), 1);
    }

    /** The history is a ring: undo and record in turn, over its end and back. */
    private static void undoAfterMany(Due due) {
        OrphanChain x = new OrphanChain();
        for (int round = 0; round < 12; round++) {
            x.note(round);
            x.note(round);
            due.is("15: undo()", x.undo(), Math.min(4, round + 1));
            due.is("15: entries", x.count(0), round + 2);
        }
        for (int left = 3; left >= 0; left--) {
            due.is("15: undo()", x.undo(), left);
            due.is("15: entries", x.count(0), 9 + left);
        }
    }
}
