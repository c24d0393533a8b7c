/** Boundary cases of "Terms": Entries, Links. */
final class EntriesBounds {
    private EntriesBounds() {
    }

    static void all(Bounds bounds) {
        entries(bounds);
        kinds(bounds);
        links(bounds);
        seals(bounds);
    }

    private static void entries(Bounds bounds) {
        bounds.section("Entries");
        bounds.sentence("There are at most 60 entries", """
            58 note 1
            count 0 = 59
            entry 59 0 = INVALID
            note 1 = 59
            count 0 = 60
            entry 59 0 = 4
            note 1 = FULL
            deposit 1 1 = FULL
            entry 60 0 = INVALID
            # the last one by adopt()
            new
            58 note 1
            goBack 57 = 0
            adopt 0 0 = 1
            count 0 = 60
            note 1 = FULL
            # the last one by dismiss()
            new
            58 note 1
            goBack 57 = 0
            dismiss 0 = 59
            count 0 = 60
            note 1 = FULL
            """);
        bounds.sentence("numbered from 0 in the order in which they were written;", """
            entry 0 0 = 0
            note 5 = 1
            deposit 1 7 = 2
            goBack 1 = 0
            note 6 = 3
            adopt 0 0 = 1
            goBack 3 = 1
            dismiss 1 = 5
            entry 1 3 = 5
            entry 2 3 = 7
            entry 3 3 = 6
            entry 4 3 = 7
            entry 5 3 = 4
            count 0 = 6
            """);
        bounds.sentence("none is ever erased.", """
            note 11 = 1
            note 12 = 2
            note 13 = 3
            goBack 0 = 0
            count 0 = 4
            entry 3 3 = 13
            dismiss 0 = 4
            count 0 = 5
            entry 3 3 = 13
            goBack 0 = 1
            adopt 1 1 = 1
            count 0 = 6
            entry 1 3 = 11
            entry 2 3 = 12
            entry 3 3 = 13
            entry 4 3 = 3
            """);
        bounds.sentence("Entry 0 is there at first, and has no parent;", """
            count 0 = 1
            entry 0 4 = NONE
            entry 1 4 = INVALID
            59 note 1
            goBack 0 = 0
            entry 0 4 = NONE
            relink 0 = 0
            entry 0 4 = NONE
            """);
        bounds.sentence("each other one has an earlier entry as its parent.", """
            58 note 1
            goBack 0 = 0
            note 2 = 59
            entry 1 4 = 0
            entry 2 4 = 1
            entry 58 4 = 57
            entry 59 4 = 0
            """);
        bounds.sentence("An entry is below another one if this is its parent, or the parent of its parent, and so on.", """
            # its parent alone, up to the 58th parent of a parent
            deposit 1 10 = 1
            58 note 1
            forge 1 11 = 10
            relink 2 = 0
            relink 1 = 59
            count 9 = 0
            # two branches are below, and an entry that is behind none of the two is not
            new
            deposit 1 10 = 1
            note 1 = 2
            goBack 1 = 0
            note 2 = 3
            goBack 0 = 1
            note 3 = 4
            forge 1 11 = 10
            forge 4 9 = 3
            relink 1 = 3
            count 9 = 1
            count 10 = 4
            # an entry above is not
            new
            note 1 = 1
            note 2 = 2
            forge 1 3 = 1
            relink 2 = 0
            count 9 = 1
            """);
        bounds.sentence("The path of an entry is the row of entries from 0 to it, each one the parent of the next.", """
            entry 0 9 = 1
            onChain 0 = 0
            59 note 1
            entry 0 9 = 1
            entry 1 9 = 2
            entry 59 9 = 60
            onChain 59 = 59
            new
            57 note 1
            goBack 1 = 0
            note 2 = 58
            entry 57 9 = 58
            entry 58 9 = 3
            onChain 1 = 1
            onChain 2 = 58
            """);
        bounds.sentence("The balances at an entry are what the entries of its path make of accounts that are all 0 at first.", """
            balance 0 0 = 0
            balance 1 0 = 0
            balance 5 0 = 0
            59 deposit 1 999
            balance 1 0 = 0
            balance 1 1 = 999
            balance 1 59 = 58941
            balance 2 59 = 0
            new
            deposit 1 10 = 1
            deposit 1 20 = 2
            goBack 1 = 0
            fee 1 10 = 3
            balance 1 2 = 30
            balance 1 3 = 0
            balance 0 3 = 10
            """);
    }

    private static void kinds(Bounds bounds) {
        bounds.sentence("An entry has a kind, two accounts (0 to 5), and an amount:", """
            deposit 0 1 = 1
            deposit 5 999 = 2
            pay 5 1 999 = 3
            entry 1 0 = 1
            entry 1 1 = 0
            entry 1 2 = 0
            entry 1 3 = 1
            entry 2 2 = 5
            entry 2 3 = 999
            entry 3 0 = 2
            entry 3 1 = 5
            entry 3 2 = 1
            deposit 6 1 = INVALID
            deposit -1 1 = INVALID
            """);
        bounds.sentence("0 beginning the entry 0;", """
            entry 0 0 = 0
            note 1 = 1
            entry 0 0 = 0
            entry 1 0 = 4
            """);
        bounds.sentence("both accounts are 0, and the amount is 0", """
            entry 0 1 = 0
            entry 0 2 = 0
            entry 0 3 = 0
            forge 0 0 = INVALID
            forge 0 1 = INVALID
            entry 0 3 = 0
            """);
        bounds.sentence("1 deposit the amount (1 to 999) comes to the second account;", """
            deposit 2 0 = INVALID
            deposit 2 1 = 1
            deposit 2 999 = 2
            deposit 2 1000 = INVALID
            entry 1 0 = 1
            balance 2 1 = 1
            balance 2 2 = 1000
            balance 0 2 = 0
            """);
        bounds.sentence("the first one is 0", """
            deposit 5 3 = 1
            entry 1 1 = 0
            entry 1 2 = 5
            deposit 0 3 = 2
            entry 2 1 = 0
            entry 2 2 = 0
            balance 0 2 = 3
            """);
        bounds.sentence("2 payment the amount (1 to 999) goes from the first account (1 to 5) to the second one (1 to 5), another one", """
            deposit 1 999 = 1
            deposit 0 999 = 2
            pay 1 5 0 = INVALID
            pay 1 5 1000 = INVALID
            pay 1 5 999 = 3
            balance 1 3 = 0
            balance 5 3 = 999
            pay 5 1 1 = 4
            balance 5 4 = 998
            balance 1 4 = 1
            balance 0 4 = 999
            entry 4 0 = 2
            entry 4 1 = 5
            entry 4 2 = 1
            pay 0 1 1 = INVALID
            pay 1 0 1 = INVALID
            pay 6 1 1 = INVALID
            pay 1 6 1 = INVALID
            pay 1 1 1 = INVALID
            pay 5 5 1 = INVALID
            """);
        bounds.sentence("3 fee the amount (1 to 999) goes from the first account (1 to 5) to the second one, which is 0", """
            deposit 5 999 = 1
            deposit 1 1 = 2
            fee 5 0 = INVALID
            fee 5 1000 = INVALID
            fee 5 999 = 3
            fee 1 1 = 4
            balance 5 4 = 0
            balance 1 4 = 0
            balance 0 4 = 1000
            entry 3 0 = 3
            entry 3 1 = 5
            entry 3 2 = 0
            fee 0 1 = INVALID
            fee 6 1 = INVALID
            """);
        bounds.sentence("4 note no money;", """
            deposit 1 10 = 1
            note 999 = 2
            note 0 = 3
            entry 2 0 = 4
            entry 2 10 = 10
            balance 0 3 = 0
            balance 1 3 = 10
            forge 2 0 = 999
            forge 3 999 = 0
            balance 0 3 = 0
            entry 3 10 = 10
            """);
        bounds.sentence("both accounts are 0, and the amount is a code (0 to 999)", """
            note -1 = INVALID
            note 0 = 1
            note 999 = 2
            note 1000 = INVALID
            entry 1 1 = 0
            entry 1 2 = 0
            entry 1 3 = 0
            entry 2 1 = 0
            entry 2 2 = 0
            entry 2 3 = 999
            """);
        bounds.complete();
    }

    private static void links(Bounds bounds) {
        bounds.section("Links");
        bounds.sentence("Each entry has a link, which fits if it is 1 for the entry 0", """
            entry 0 5 = 1
            entry 0 6 = 1
            relink 0 = 0
            note 1 = 1
            forge 1 2 = 1
            relink 0 = 1
            entry 0 5 = 1
            entry 0 6 = 1
            """);
        bounds.sentence("for another one, the sum of 31 times the link that its parent has", """
            # the least parent's link, 0, and the greatest, 9972
            deposit 3 581 = 1
            entry 1 5 = 0
            note 0 = 2
            entry 2 5 = 66
            new
            note 582 = 1
            entry 1 5 = 9972
            note 999 = 2
            entry 2 5 = 7045
            """);
        bounds.sentence("(whether that fits or not)", """
            deposit 1 100 = 1
            entry 1 5 = 1770
            forge 1 99 = 100
            entry 1 6 = 0
            note 1 = 2
            entry 2 5 = 5088
            entry 2 6 = 1
            relink 2 = 0
            entry 2 5 = 5088
            """);
        bounds.sentence("7 times its kind, 11 times its first account, 13 times its second account, 17 times its amount and 19 times its number", """
            # the least and the greatest of each
            deposit 0 1 = 1
            entry 1 5 = 74
            new
            deposit 5 999 = 1
            entry 1 5 = 7132
            new
            note 0 = 1
            entry 1 5 = 78
            new
            note 999 = 1
            entry 1 5 = 7088
            new
            deposit 1 100 = 1
            pay 1 5 100 = 2
            entry 2 5 = 6833
            fee 5 100 = 3
            entry 3 5 = 4223
            # the greatest number, behind the entry 0
            new
            58 note 1
            goBack 0 = 0
            note 0 = 59
            entry 59 5 = 1180
            """);
        bounds.sentence("left over by 9973.", """
            # the sums 9972, 9973 and 9990
            note 582 = 1
            entry 1 5 = 9972
            entry 1 6 = 1
            new
            deposit 3 581 = 1
            entry 1 5 = 0
            entry 1 6 = 1
            seal = 0
            sealed 0 1 = 0
            sealed 0 2 = 1
            check "1:0" = 1
            new
            deposit 3 582 = 1
            entry 1 5 = 17
            entry 1 6 = 1
            """);
        bounds.sentence("When an entry is written, it gets the link that fits.", """
            deposit 1 100 = 1
            pay 1 2 50 = 2
            fee 2 50 = 3
            note 0 = 4
            entry 1 6 = 1
            entry 2 6 = 1
            entry 3 6 = 1
            entry 4 6 = 1
            goBack 1 = 0
            forge 2 51 = 50
            forge 1 99 = 100
            # the amount 51 is written anew, behind a link that does not fit
            adopt 0 1 = 3
            entry 5 3 = 51
            entry 5 6 = 1
            entry 6 6 = 1
            entry 7 6 = 1
            goBack 5 = 1
            dismiss 1 = 8
            entry 8 6 = 1
            count 9 = 2
            """);
    }

    private static void seals(Bounds bounds) {
        bounds.sentence("A seal is an entry with the link that it had when it was sealed.", """
            seal = 0
            sealed 0 0 = 0
            sealed 0 1 = 1
            deposit 1 100 = 1
            seal = 1
            forge 1 99 = 100
            seal = 2
            relink 1 = 1
            seal = 3
            sealed 1 0 = 1
            sealed 1 1 = 1770
            sealed 2 0 = 1
            sealed 2 1 = 1770
            sealed 3 0 = 1
            sealed 3 1 = 1753
            goBack 0 = 0
            sealed 1 0 = 1
            """);
        bounds.sentence("There are at most 8 seals, numbered from 0.", """
            count 7 = 0
            sealed 0 0 = INVALID
            seal = 0
            seal = 1
            5 seal
            count 7 = 7
            sealed 7 0 = INVALID
            seal = 7
            count 7 = 8
            sealed 7 0 = 0
            seal = FULL
            note 1 = 1
            seal = FULL
            sealed 8 0 = INVALID
            """);
        bounds.sentence("A seal fits if its entry has this link still.", """
            seal = 0
            note 1 = 1
            seal = 1
            forge 1 2 = 1
            # the link stays, whether it fits or not
            sealed 1 2 = 1
            relink 0 = 1
            sealed 1 2 = 0
            sealed 0 2 = 1
            # its link is what it was
            forge 1 1 = 2
            sealed 1 2 = 0
            relink 1 = 1
            sealed 1 2 = 1
            # it fits as an orphan, too
            goBack 0 = 0
            sealed 1 2 = 1
            """);
        bounds.complete();
    }
}
