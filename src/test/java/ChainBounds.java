/** Boundary cases of "Terms": The chain and its orphans. */
final class ChainBounds {
    /** The branch 0 is the entry 1; it is loud, and the head is 2. */
    static final String LOUD = """
            deposit 1 100
            goBack 0
            setPatience 1
            deposit 1 50
            """;

    private ChainBounds() {
    }

    /** So many branches, each of one note, at an entry, which is the head; the patience is 30. */
    static String branches(int branches, int head) {
        StringBuilder lines = new StringBuilder("setPatience 30\n");
        for (int branch = 0; branch < branches; branch++) {
            lines.append("1 note ").append(branch).append("\n1 goBack ").append(head).append('\n');
        }
        return lines.toString();
    }

    static void all(Bounds bounds) {
        bounds.section("The chain and its orphans");
        head(bounds);
        branchesOfChain(bounds);
        states(bounds);
        pleas(bounds);
        adopting(bounds);
        dismissing(bounds);
        bounds.complete();
    }

    private static void head(Bounds bounds) {
        bounds.sentence("The head is an entry (0 at first);", """
            count 1 = 0
            58 note 1
            count 1 = 58
            note 1 = 59
            count 1 = 59
            goBack 0 = 0
            count 1 = 0
            """);
        bounds.sentence("its path is the chain.", """
            count 2 = 1
            onChain 0 = 0
            onChain 1 = NONE
            entry 0 7 = 1
            note 1 = 1
            note 2 = 2
            goBack 1 = 0
            count 2 = 2
            onChain 1 = 1
            onChain 2 = NONE
            entry 1 7 = 1
            entry 2 7 = 0
            """);
        bounds.sentence("An entry is written with the head as its parent, and is the head then.", """
            note 1 = 1
            entry 1 4 = 0
            count 1 = 1
            57 note 1
            note 1 = 59
            entry 59 4 = 58
            count 1 = 59
            # a refused one is not
            new
            deposit 1 5 = 1
            fee 1 6 = ILLEGAL
            count 1 = 1
            goBack 0 = 0
            fee 1 5 = ILLEGAL
            count 1 = 0
            deposit 2 1 = 2
            entry 2 4 = 0
            """);
        bounds.sentence("To go back to an entry of the chain makes this the head.", """
            goBack 0 = 0
            count 1 = 0
            59 note 1
            goBack 59 = 0
            count 1 = 59
            goBack 58 = 0
            count 1 = 58
            goBack 59 = ILLEGAL
            count 1 = 58
            goBack 0 = 1
            count 1 = 0
            goBack 1 = ILLEGAL
            count 1 = 0
            """);
    }

    private static void branchesOfChain(Bounds bounds) {
        bounds.sentence("If the head was another one, this becomes the leaf of an orphan branch, numbered from 0 in their order;", """
            goBack 0 = 0
            count 3 = 0
            branch 0 0 = INVALID
            note 1 = 1
            note 2 = 2
            goBack 2 = 0
            count 3 = 0
            goBack 1 = 0
            count 3 = 1
            branch 0 0 = 2
            goBack 1 = 1
            count 3 = 1
            goBack 0 = 1
            count 3 = 2
            branch 0 0 = 2
            branch 1 0 = 1
            """);
        bounds.sentence("there are at most 10 such branches.", branches(9, 0) + """
            count 3 = 9
            branch 9 0 = INVALID
            note 9 = 10
            goBack 0 = 9
            count 3 = 10
            branch 9 0 = 10
            note 10 = 11
            goBack 0 = FULL
            goBack 11 = 10
            count 3 = 10
            branch 10 0 = INVALID
            # those that wait no more are branches still
            dismiss 0 = 12
            adopt 1 0 = 1
            goBack 0 = FULL
            """);
        bounds.sentence("The entries of a branch are those of the path of its leaf that were not on the chain when it became an orphan.", """
            # one entry at least
            note 1 = 1
            note 2 = 2
            goBack 1 = 0
            branch 0 1 = 1
            branch 0 2 = 2
            # what is on the chain no more later, is none of them; and what comes to the chain, one still
            goBack 0 = 1
            branch 0 1 = 1
            branch 0 2 = 2
            branch 1 1 = 1
            branch 1 2 = 1
            # a path with an entry of an earlier branch
            new
            note 1 = 1
            note 2 = 2
            note 3 = 3
            goBack 2 = 0
            note 4 = 4
            goBack 1 = 1
            branch 0 1 = 1
            branch 0 2 = 3
            branch 1 1 = 2
            branch 1 2 = 2
            failing 0 1 = 1
            failing 1 1 = 2
            # 59 entries at most
            new
            59 note 1
            goBack 0 = 0
            branch 0 0 = 59
            branch 0 1 = 59
            branch 0 2 = 1
            """);
    }

    private static void states(Bounds bounds) {
        bounds.sentence("A branch is waiting at first;", """
            note 1 = 1
            count 4 = 0
            goBack 0 = 0
            branch 0 4 = 0
            count 4 = 1
            """);
        bounds.sentence("later it is adopted, or dismissed, for good.", """
            note 1 = 1
            goBack 0 = 0
            adopt 0 0 = 1
            branch 0 4 = 2
            adopt 0 0 = ILLEGAL
            adopt 0 1 = ILLEGAL
            dismiss 0 = ILLEGAL
            # what was written anew becomes an orphan, and the branch stays an adopted one
            goBack 0 = 1
            branch 0 4 = 2
            adopt 0 0 = ILLEGAL
            dismiss 1 = 3
            branch 1 4 = 3
            dismiss 1 = ILLEGAL
            adopt 1 0 = ILLEGAL
            adopt 1 1 = ILLEGAL
            setPatience 1 = 3
            5 note 1
            branch 0 4 = 2
            branch 1 4 = 3
            """);
    }

    private static void pleas(Bounds bounds) {
        bounds.sentence("A waiting branch has pleas, 0 at first;", """
            2 note 1
            goBack 1 = 0
            branch 0 3 = 0
            goBack 0 = 1
            branch 0 3 = 0
            branch 1 3 = 0
            """);
        bounds.sentence("each entry that is written by deposit(), pay(), fee() and note() makes the pleas of all waiting branches greater by 1.", """
            setPatience 30 = 3
            deposit 1 50 = 1
            note 1 = 2
            goBack 1 = 0
            deposit 1 1 = 3
            branch 0 3 = 1
            pay 1 2 1 = 4
            branch 0 3 = 2
            fee 1 1 = 5
            branch 0 3 = 3
            note 1 = 6
            branch 0 3 = 4
            # refused ones do not
            deposit 6 1 = INVALID
            fee 1 999 = ILLEGAL
            branch 0 3 = 4
            # two branches
            goBack 5 = 1
            branch 0 3 = 4
            branch 1 3 = 0
            note 2 = 7
            branch 0 3 = 5
            branch 1 3 = 1
            # adopt() and dismiss() write, too, but are none of the four
            adopt 1 0 = 1
            branch 0 3 = 5
            branch 1 3 = 1
            goBack 7 = 2
            dismiss 2 = 9
            branch 0 3 = 5
            branch 2 3 = 0
            # those that wait no more
            note 3 = 10
            branch 0 3 = 6
            branch 1 3 = 1
            branch 2 3 = 0
            forge 10 4 = 3
            relink 0 = 1
            seal = 0
            branch 0 3 = 6
            # in a full chain none is written
            new
            deposit 1 10
            setPatience 30
            32 note 1
            goBack 32 = 0
            26 note 1
            count 0 = 60
            branch 0 3 = 26
            note 1 = FULL
            deposit 1 1 = FULL
            fee 1 1 = FULL
            pay 1 2 1 = FULL
            branch 0 3 = 26
            """);
        bounds.sentence("It is loud if its pleas are at least the patience (1 to 30;", """
            setPatience 1 = 3
            note 1 = 1
            goBack 0 = 0
            branch 0 4 = 0
            count 5 = 0
            note 2 = 2
            branch 0 3 = 1
            branch 0 4 = 1
            count 5 = 1
            setPatience 2 = 1
            branch 0 4 = 0
            setPatience 30 = 2
            28 note 3
            branch 0 3 = 29
            branch 0 4 = 0
            note 4 = 31
            branch 0 3 = 30
            branch 0 4 = 1
            note 5 = ILLEGAL
            branch 0 3 = 30
            setPatience 29 = 30
            branch 0 4 = 1
            setPatience 31 = INVALID
            setPatience 0 = INVALID
            branch 0 4 = 1
            """);
        bounds.sentence("at first 3).", """
            count 6 = 3
            note 1 = 1
            goBack 0 = 0
            note 2 = 2
            note 3 = 3
            branch 0 4 = 0
            note 4 = 4
            branch 0 4 = 1
            note 5 = ILLEGAL
            """);
        bounds.sentence("As long as a branch is loud, nothing can be written by these four methods.", LOUD + """
            deposit 1 1 = ILLEGAL
            pay 1 2 1 = ILLEGAL
            fee 1 1 = ILLEGAL
            note 0 = ILLEGAL
            # by others something can
            goBack 0 = 1
            deposit 1 1 = ILLEGAL
            dismiss 0 = 3
            count 5 = 0
            deposit 1 1 = 4
            # the branch 1 is loud now; it is adopted
            count 5 = 1
            note 0 = ILLEGAL
            adopt 1 0 = 1
            note 0 = 6
            # as long as one of two is loud
            new
            note 1 = 1
            goBack 0 = 0
            note 2 = 2
            goBack 0 = 1
            note 3 = 3
            setPatience 1 = 3
            count 5 = 2
            dismiss 1 = 4
            note 5 = ILLEGAL
            dismiss 0 = 5
            note 6 = 6
            # a greater patience helps, too
            new
            """ + LOUD + """
            note 1 = ILLEGAL
            setPatience 2 = 1
            note 1 = 3
            note 1 = ILLEGAL
            """);
    }

    private static void adopting(Bounds bounds) {
        bounds.sentence("To adopt a branch writes its entries anew at the head, one behind another, as entries of the same kinds, accounts and amounts (each with a link that fits).", """
            # one entry at least
            deposit 5 999 = 1
            goBack 0 = 0
            adopt 0 0 = 1
            count 1 = 2
            entry 2 0 = 1
            entry 2 1 = 0
            entry 2 2 = 5
            entry 2 3 = 999
            entry 2 4 = 0
            entry 2 6 = 1
            # of all kinds, behind a head that is not 0
            new
            deposit 1 9 = 1
            pay 1 5 5 = 2
            fee 5 5 = 3
            note 0 = 4
            goBack 1 = 0
            note 7 = 5
            adopt 0 0 = 3
            entry 6 0 = 2
            entry 6 1 = 1
            entry 6 2 = 5
            entry 6 3 = 5
            entry 6 4 = 5
            entry 7 0 = 3
            entry 7 1 = 5
            entry 7 2 = 0
            entry 7 3 = 5
            entry 7 4 = 6
            entry 8 0 = 4
            entry 8 3 = 0
            entry 8 4 = 7
            count 9 = 0
            # those of the branch stay
            entry 2 4 = 1
            entry 2 7 = 0
            # a forged amount is the amount
            new
            note 1 = 1
            goBack 0 = 0
            forge 1 999 = 1
            adopt 0 0 = 1
            entry 2 3 = 999
            entry 2 6 = 1
            entry 1 6 = 0
            # the most that fits: 29 entries behind 31
            new
            note 1
            29 note 2
            goBack 1 = 0
            note 3 = 31
            goBack 1 = 1
            adopt 0 0 = FULL
            new
            note 1
            29 note 2
            goBack 1 = 0
            adopt 0 0 = 29
            count 0 = 60
            count 1 = 59
            entry 59 8 = 30
            entry 31 4 = 1
            """);
        bounds.sentence("An entry that would make a balance of its path less than 0 fails.", """
            # at the head are 5, 4 and none
            deposit 1 5 = 1
            fee 1 5 = 2
            goBack 1 = 0
            failing 0 0 = NONE
            adopt 0 0 = 1
            balance 1 3 = 0
            new
            deposit 1 5 = 1
            fee 1 5 = 2
            goBack 1 = 0
            fee 1 1 = 3
            failing 0 0 = 2
            adopt 0 0 = ILLEGAL
            new
            deposit 1 5 = 1
            pay 1 2 5 = 2
            goBack 1 = 0
            goBack 0 = 1
            failing 0 0 = 2
            adopt 0 0 = ILLEGAL
            # the balance on the path of the leaf is of no matter, nor are other accounts
            deposit 2 999 = 3
            adopt 0 0 = ILLEGAL
            # what an entry of the branch brings counts for those behind it
            adopt 1 0 = 1
            adopt 0 0 = 1
            balance 1 5 = 0
            """);
        bounds.sentence("The branch is adopted then.", """
            note 1 = 1
            goBack 0 = 0
            adopt 0 1 = 1
            branch 0 4 = 2
            count 4 = 0
            # also if nothing is written
            new
            deposit 1 5 = 1
            fee 1 5 = 2
            goBack 1 = 0
            goBack 0 = 1
            adopt 0 0 = ILLEGAL
            branch 0 4 = 0
            adopt 0 1 = 0
            branch 0 4 = 2
            branch 1 4 = 0
            """);
    }

    private static void dismissing(Bounds bounds) {
        bounds.sentence("To dismiss a branch writes a note at the head whose code is the number of its leaf.", """
            # the least leaf is 1
            note 9 = 1
            goBack 0 = 0
            dismiss 0 = 2
            entry 2 0 = 4
            entry 2 1 = 0
            entry 2 2 = 0
            entry 2 3 = 1
            entry 2 4 = 0
            count 1 = 2
            # the greatest one, behind which there is room, is 58
            new
            58 note 9
            goBack 57 = 0
            dismiss 0 = 59
            entry 59 3 = 58
            entry 59 4 = 57
            entry 59 8 = NONE
            """);
        bounds.sentence("The branch is dismissed then.", """
            note 1 = 1
            goBack 0 = 0
            count 4 = 1
            dismiss 0 = 2
            branch 0 4 = 3
            count 4 = 0
            # not by a call that is refused
            new
            59 note 1
            goBack 58 = 0
            dismiss 0 = FULL
            branch 0 4 = 0
            """);
    }
}
