/** Promises 16 to 18: append, clearText, check. */
public final class TextTest {
    private static final int INVALID = OrphanChain.INVALID_ARGUMENT;
    private static final int FULL = OrphanChain.CAPACITY_EXCEEDED;

    private TextTest() {
    }

    public static void main(String[] args) {
        Due due = new Due("TextTest");
        append(due);
        appendErrors(due);
        clearText(due);
        faults(due);
        longFaults(due);
        proofs(due);
        proofsOfOrphans(due);
        checkChangesNothing(due);
        due.end();
    }

    private static void append(Due due) {
        OrphanChain x = new OrphanChain();
        due.is("16: append(1)", x.append(1), 1);
        due.is("16: append(255)", x.append(255), 2);
        due.is("16: append('0')", x.append('0'), 3);
        due.is("16: length", x.count(14), 3);
        due.is("16: no action", x.count(13), 0);
    }

    private static void appendErrors(Due due) {
        OrphanChain x = new OrphanChain();
        for (int wrong : new int[] {Integer.MIN_VALUE, -1, 0, 256, Integer.MAX_VALUE}) {
            due.is("16: append(" + wrong + ")", x.append(wrong), INVALID);
        }
        due.is("16: length", x.count(14), 0);
        for (int length = 1; length <= 100; length++) {
            due.is("16: append", x.append('1'), length);
        }
        due.refused("16: the 101st", x, () -> x.append('1'), FULL);
        due.refused("16: append(0) when full", x, () -> x.append(0), INVALID);
        due.refused("16: append(256) when full", x, () -> x.append(256), INVALID);
        due.is("16: clearText()", x.clearText(), 100);
        due.is("16: append", x.append('1'), 1);
    }

    private static void clearText(Due due) {
        OrphanChain x = new OrphanChain();
        due.is("17: clearText() of none", x.clearText(), 0);
        Make.append(x, "0:1");
        due.is("17: check()", x.check(), 1);
        due.is("17: clearText()", x.clearText(), 3);
        due.is("17: length", x.count(14), 0);
        due.is("17: check()", x.check(), -1000);
        due.is("17: clearText() again", x.clearText(), 0);
        due.is("17: no action", x.count(13), 0);
        Make.append(x, "0:");
        due.is("17: nothing of it is left", x.check(), -1002);
    }

    private static void faults(Due due) {
        OrphanChain x = new OrphanChain();
        String[] texts = {"", ":", ",", "x", "0", "12", "0:", "0:,", "0::", "0:1:", "0:1,", "0:1,,", "0,1",
            "00:1", "01:1", "0:00", "0:01", "0:1,01", "0:1,00", "0: 1", " 0:1", "0:1 ", "0:-1", "+0:1"};
        int[] faults = {0, 0, 0, 0, 1, 2, 2, 2, 2, 3, 4, 4, 1,
            1, 1, 3, 3, 5, 5, 2, 0, 3, 2, 0};
        for (int at = 0; at < texts.length; at++) {
            due.is("18: check() of '" + texts[at] + "'", Make.check(x, texts[at]), -1000 - faults[at]);
        }
        // the signs before and behind the digits, ':' being the one behind them
        due.is("18: check() of '0:/'", Make.check(x, "0:/"), -1002);
        due.is("18: check() of '0:1:'", Make.check(x, "0:1:"), -1003);
        due.is("18: check() of '0:1' and 255", Make.check(x, "0:1\u00ff"), -1003);
    }

    private static void longFaults(Due due) {
        OrphanChain x = new OrphanChain();
        due.is("18: five digits of an entry", Make.check(x, "12345:1"), -1004);
        due.is("18: five digits of a link", Make.check(x, "0:12345"), -1006);
        due.is("18: five digits of another link", Make.check(x, "0:1,99999"), -1008);
        due.is("18: a fault comes before an entry that is none", Make.check(x, "9:1,"), -1004);
        due.is("18: a fault comes before a link that is none", Make.check(x, "0:2,x"), -1004);
        String fifty = "0:" + "1,".repeat(49);
        due.is("18: 100 signs that end too early", Make.check(x, fifty), -1100);
        due.is("18: 99 signs", Make.check(x, fifty.substring(0, 99)), -2);
        due.is("18: 100 signs", Make.check(x, fifty.substring(0, 99) + "0"), -2);
    }

    /** The links are 1, 104, 3400 and 31 * 3400 + 28 + 17 * 4 + 57, left over by 9973. */
    private static void proofs(Due due) {
        OrphanChain x = new OrphanChain();
        x.deposit(1, 2);
        x.deposit(1, 3);
        x.note(4);
        due.is("18: link of 2", x.entry(2, 5), 31 * 104 + 7 + 13 + 51 + 38);
        due.is("18: link of 3", x.entry(3, 5), (31 * 3333 + 28 + 68 + 57) - 10 * 9973);
        due.is("18: all", Make.check(x, "0:1,104,3333,3746"), 4);
        due.is("18: the first ones", Make.check(x, "0:1,104"), 2);
        due.is("18: from 1 on", Make.check(x, "1:104,3333,3746"), 3);
        due.is("18: the last one", Make.check(x, "3:3746"), 1);
        due.is("18: the first is not", Make.check(x, "0:0"), -1);
        due.is("18: the first of two is not", Make.check(x, "1:105,3333"), -1);
        due.is("18: the second is not", Make.check(x, "1:104,3334,3746"), -2);
        due.is("18: the last is not", Make.check(x, "0:1,104,3333,9999"), -4);
        due.is("18: there is no entry any more", Make.check(x, "3:3746,1"), -2);
        due.is("18: there are none any more", Make.check(x, "0:1,104,3333,3746,0,0"), -5);
        due.is("18: no entry", Make.check(x, "4:1"), INVALID);
        due.is("18: no entry at all", Make.check(x, "9999:1"), INVALID);
        x.forge(2, 9);
        due.is("18: links stay", Make.check(x, "2:3333,3746"), 2);
        x.relink(2);
        due.is("18: links become other ones", Make.check(x, "1:104,3333"), -2);
    }

    private static void proofsOfOrphans(Due due) {
        OrphanChain x = new OrphanChain();
        x.deposit(1, 2);
        x.note(3);
        x.goBack(1);
        due.is("18: an entry that is not on the chain", Make.check(x, "2:1"), INVALID);
        due.is("18: the chain ends at 1", Make.check(x, "1:104," + x.entry(2, 5)), -2);
        x.note(4);
        due.is("18: the chain goes on with 3", Make.check(x, "1:104," + x.entry(3, 5)), 2);
        due.is("18: not with 2", Make.check(x, "1:104," + x.entry(2, 5)), -2);
        due.is("18: from 3 on", Make.check(x, "3:" + x.entry(3, 5)), 1);
        due.is("18: nothing behind 3", Make.check(x, "3:" + x.entry(3, 5) + ",1"), -2);
    }

    private static void checkChangesNothing(Due due) {
        OrphanChain x = new OrphanChain();
        Make.append(x, "0:1");
        due.is("18: check()", x.check(), 1);
        due.is("18: check() again, as the text stays", x.check(), 1);
        due.is("18: length", x.count(14), 3);
        due.is("18: no action", x.count(13), 0);
        x.append(',');
        due.is("18: check() of a fault", x.check(), -1004);
        x.append('5');
        due.is("18: check() of the same text, longer", x.check(), -2);
        due.is("18: length then", x.count(14), 5);
    }
}
