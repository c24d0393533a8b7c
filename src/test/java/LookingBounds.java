/** Boundary cases of promises 19 to 25: count, entry, balance, onChain, branch, sealed, common. */
final class LookingBounds {
    private LookingBounds() {
    }

    static void all(Bounds bounds) {
        countOfChain(bounds);
        countOfOthers(bounds);
        entry(bounds);
        entryOfChain(bounds);
        balance(bounds);
        onChain(bounds);
        branch(bounds);
        sealed(bounds);
        common(bounds);
    }

    private static void countOfChain(Bounds bounds) {
        bounds.section("Promise 19");
        bounds.sentence("Returns a number.", """
            count 0 = 1
            count 14 = 0
            """);
        bounds.sentence("`what`: 0 the number of entries", """
            count 0 = 1
            58 note 1
            count 0 = 59
            note 1 = 59
            count 0 = 60
            note 1 = FULL
            goBack 0 = 0
            count 0 = 60
            """);
        bounds.sentence("1 the head", """
            count 1 = 0
            note 1 = 1
            count 1 = 1
            58 note 1
            count 1 = 59
            goBack 0 = 0
            count 1 = 0
            """);
        bounds.sentence("2 the number of entries of the chain", """
            count 2 = 1
            note 1 = 1
            count 2 = 2
            goBack 0 = 0
            count 2 = 1
            note 1 = 2
            count 2 = 2
            goBack 0 = 1
            dismiss 0 = 3
            dismiss 1 = 4
            count 2 = 3
            new
            59 note 1
            count 2 = 60
            goBack 58 = 0
            count 2 = 59
            """);
        bounds.sentence("3 of branches", """
            count 3 = 0
            goBack 0 = 0
            count 3 = 0
            note 1 = 1
            goBack 0 = 0
            count 3 = 1
            adopt 0 0 = 1
            count 3 = 1
            new
            """ + ChainBounds.branches(10, 0) + """
            count 3 = 10
            dismiss 9 = 11
            count 3 = 10
            """);
        bounds.sentence("4 of waiting branches, loud ones, too", """
            count 4 = 0
            note 1 = 1
            goBack 0 = 0
            count 4 = 1
            setPatience 1 = 3
            note 1 = 2
            count 5 = 1
            count 4 = 1
            adopt 0 0 = 1
            count 4 = 0
            new
            """ + ChainBounds.branches(10, 0) + """
            count 4 = 10
            setPatience 1 = 30
            count 5 = 9
            count 4 = 10
            dismiss 0 = 11
            count 4 = 9
            adopt 9 0 = 1
            count 4 = 8
            """);
        bounds.sentence("5 of loud ones", """
            count 5 = 0
            note 1 = 1
            goBack 0 = 0
            2 note 1
            count 5 = 0
            note 1 = 4
            count 5 = 1
            dismiss 0 = 5
            count 5 = 0
            # all ten
            new
            """ + ChainBounds.branches(10, 0) + """
            count 5 = 0
            note 1 = 11
            setPatience 1 = 30
            count 5 = 10
            setPatience 2 = 1
            count 5 = 9
            setPatience 10 = 2
            count 5 = 1
            setPatience 11 = 10
            count 5 = 0
            setPatience 1 = 11
            adopt 0 0 = 1
            count 5 = 9
            """);
        bounds.sentence("6 the patience", """
            count 6 = 3
            setPatience 1 = 3
            count 6 = 1
            setPatience 30 = 1
            count 6 = 30
            setPatience 31 = INVALID
            count 6 = 30
            """);
    }

    private static void countOfOthers(Bounds bounds) {
        bounds.sentence("7 the number of seals", """
            count 7 = 0
            seal = 0
            count 7 = 1
            7 seal
            count 7 = 8
            seal = FULL
            count 7 = 8
            """);
        bounds.sentence("8 of seals that do not fit", """
            count 8 = 0
            seal = 0
            count 8 = 0
            note 1 = 1
            6 seal
            count 8 = 0
            forge 1 2 = 1
            count 8 = 0
            relink 1 = 1
            count 8 = 6
            # all eight
            new
            note 1 = 1
            8 seal
            forge 1 2 = 1
            relink 0 = 1
            count 8 = 8
            forge 1 1 = 2
            relink 0 = 1
            count 8 = 0
            """);
        bounds.sentence("9 of entries whose links do not fit", """
            count 9 = 0
            note 1 = 1
            forge 1 1 = 1
            count 9 = 0
            forge 1 2 = 1
            count 9 = 1
            # all but the entry 0
            new
            59 note 1
            """ + forged(59) + """
            count 9 = 59
            relink 59 = 1
            count 9 = 58
            relink 0 = 59
            count 9 = 0
            # orphans, too
            new
            note 1 = 1
            goBack 0 = 0
            forge 1 2 = 1
            count 9 = 1
            """);
        bounds.sentence("10 the first of these entries (NONE if there is none)", """
            count 10 = NONE
            59 note 1
            count 10 = NONE
            forge 59 2 = 1
            count 10 = 59
            forge 2 2 = 1
            count 10 = 2
            forge 1 2 = 1
            count 10 = 1
            relink 0 = 59
            count 10 = NONE
            """);
        bounds.sentence("11 the number of leaves (entries that are the parent of none)", """
            count 11 = 1
            note 1 = 1
            count 11 = 1
            goBack 0 = 0
            count 11 = 1
            note 1 = 2
            count 11 = 2
            adopt 0 0 = 1
            count 11 = 2
            new
            """ + ChainBounds.branches(10, 0) + """
            count 11 = 10
            note 1 = 11
            count 11 = 11
            note 1 = 12
            count 11 = 11
            """);
        bounds.sentence("12 of snapshots", """
            count 12 = 0
            take 1 = 1
            count 12 = 1
            take 1 = 1
            count 12 = 1
            take 0 = 1
            count 12 = 2
            undo = 2
            count 12 = 1
            """);
        bounds.sentence("13 of states in the history", """
            count 13 = 0
            seal = 0
            count 13 = 1
            3 seal
            count 13 = 4
            seal = 4
            count 13 = 5
            seal = 5
            count 13 = 5
            undo = 4
            count 13 = 4
            4 undo
            count 13 = 0
            """);
        bounds.sentence("14 the length of the text", """
            count 14 = 0
            append 49 = 1
            count 14 = 1
            98 append 49
            count 14 = 99
            append 49 = 100
            count 14 = 100
            append 49 = FULL
            count 14 = 100
            clearText = 100
            count 14 = 0
            """);
        bounds.sentence("Returns the number;", """
            59 deposit 5 999
            count 0 = 60
            count 1 = 59
            count 2 = 60
            """);
        bounds.sentence("INVALID_ARGUMENT if what is out of range.", """
            count -1 = INVALID
            count 15 = INVALID
            count MIN = INVALID
            count MAX = INVALID
            count NONE = INVALID
            count 65536 = INVALID
            count 0 = 1
            count 14 = 0
            """);
        bounds.complete();
    }

    /** Another amount for each of so many notes, of which each has the amount 1. */
    private static String forged(int notes) {
        StringBuilder lines = new StringBuilder();
        for (int entry = 1; entry <= notes; entry++) {
            lines.append("1 forge ").append(entry).append(" 2\n");
        }
        return lines.toString();
    }

    private static void entry(Bounds bounds) {
        bounds.section("Promise 20");
        bounds.sentence("Tells about an entry.", """
            entry 0 0 = 0
            entry 0 10 = 0
            59 deposit 1 999
            entry 59 0 = 1
            entry 59 10 = 58941
            """);
        bounds.sentence("`entry`: an entry", """
            entry -1 0 = INVALID
            entry 1 0 = INVALID
            note 1 = 1
            entry 1 0 = 4
            entry 2 0 = INVALID
            58 note 1
            entry 59 0 = 4
            entry 60 0 = INVALID
            """);
        bounds.sentence("`what`: 0 its kind", """
            entry 0 0 = 0
            deposit 1 9 = 1
            pay 1 2 1 = 2
            fee 1 1 = 3
            note 1 = 4
            entry 1 0 = 1
            entry 2 0 = 2
            entry 3 0 = 3
            entry 4 0 = 4
            goBack 3 = 0
            dismiss 0 = 5
            entry 5 0 = 4
            """);
        bounds.sentence("1 its first account", """
            entry 0 1 = 0
            deposit 5 9 = 1
            deposit 1 9 = 2
            pay 5 1 1 = 3
            pay 1 5 1 = 4
            fee 5 1 = 5
            note 1 = 6
            entry 1 1 = 0
            entry 3 1 = 5
            entry 4 1 = 1
            entry 5 1 = 5
            entry 6 1 = 0
            """);
        bounds.sentence("2 its second account", """
            entry 0 2 = 0
            deposit 0 9 = 1
            deposit 5 9 = 2
            pay 5 1 1 = 3
            pay 1 5 1 = 4
            fee 5 1 = 5
            note 1 = 6
            entry 1 2 = 0
            entry 2 2 = 5
            entry 3 2 = 1
            entry 4 2 = 5
            entry 5 2 = 0
            entry 6 2 = 0
            """);
        bounds.sentence("3 its amount", """
            entry 0 3 = 0
            deposit 1 999 = 1
            deposit 1 1 = 2
            note 0 = 3
            note 999 = 4
            entry 1 3 = 999
            entry 2 3 = 1
            entry 3 3 = 0
            entry 4 3 = 999
            forge 1 1 = 999
            entry 1 3 = 1
            """);
        bounds.sentence("4 its parent (NONE for the entry 0)", """
            entry 0 4 = NONE
            58 note 1
            entry 1 4 = 0
            entry 58 4 = 57
            goBack 0 = 0
            note 1 = 59
            entry 59 4 = 0
            entry 0 4 = NONE
            """);
        bounds.sentence("5 its link", """
            entry 0 5 = 1
            note 582 = 1
            entry 1 5 = 9972
            new
            deposit 3 581 = 1
            entry 1 5 = 0
            forge 1 582 = 581
            entry 1 5 = 0
            relink 1 = 1
            entry 1 5 = 17
            """);
        bounds.sentence("6 1 if the link fits and 0 if not", """
            entry 0 6 = 1
            59 note 1
            entry 59 6 = 1
            forge 59 2 = 1
            entry 59 6 = 0
            forge 1 2 = 1
            entry 1 6 = 0
            entry 2 6 = 1
            relink 0 = 59
            entry 1 6 = 1
            entry 59 6 = 1
            """);
    }

    private static void entryOfChain(Bounds bounds) {
        bounds.sentence("7 1 if it is on the chain and 0 if not", """
            entry 0 7 = 1
            59 note 1
            entry 59 7 = 1
            entry 0 7 = 1
            goBack 58 = 0
            entry 59 7 = 0
            entry 58 7 = 1
            goBack 0 = 1
            entry 1 7 = 0
            entry 58 7 = 0
            entry 0 7 = 1
            """);
        bounds.sentence("8 the entry of which it was written anew when a branch was adopted (NONE if it was not)", """
            entry 0 8 = NONE
            note 1 = 1
            goBack 0 = 0
            adopt 0 0 = 1
            entry 1 8 = NONE
            entry 2 8 = 1
            goBack 0 = 1
            # of what was written anew itself
            adopt 1 0 = 1
            entry 3 8 = 2
            goBack 0 = 2
            dismiss 2 = 4
            entry 4 8 = NONE
            note 1 = 5
            entry 5 8 = NONE
            # the last of 60
            new
            30 note 1
            goBack 1 = 0
            adopt 0 0 = 29
            entry 31 8 = 2
            entry 59 8 = 30
            """);
        bounds.sentence("9 the number of entries of its path", """
            entry 0 9 = 1
            note 1 = 1
            entry 1 9 = 2
            goBack 0 = 0
            entry 1 9 = 2
            note 1 = 2
            entry 2 9 = 2
            new
            59 note 1
            entry 59 9 = 60
            entry 58 9 = 59
            """);
        bounds.sentence("10 the sum of all balances at it", """
            entry 0 10 = 0
            deposit 0 999 = 1
            entry 1 10 = 999
            deposit 5 1 = 2
            pay 5 1 1 = 3
            fee 1 1 = 4
            note 999 = 5
            entry 2 10 = 1000
            entry 5 10 = 1000
            new
            59 deposit 5 999
            entry 59 10 = 58941
            entry 1 10 = 999
            """);
        bounds.sentence("Returns the value;", """
            deposit 1 7 = 1
            entry 1 0 = 1
            entry 1 2 = 1
            entry 1 3 = 7
            entry 1 4 = 0
            entry 1 5 = 189
            entry 1 6 = 1
            entry 1 7 = 1
            entry 1 8 = NONE
            entry 1 9 = 2
            entry 1 10 = 7
            """);
        bounds.sentence("INVALID_ARGUMENT if there is no such entry or what is out of range.", """
            entry MIN 0 = INVALID
            entry MAX 0 = INVALID
            entry NONE 0 = INVALID
            entry 65536 0 = INVALID
            entry 0 MIN = INVALID
            entry 0 MAX = INVALID
            entry 0 NONE = INVALID
            entry 0 65536 = INVALID
            entry 0 -1 = INVALID
            entry 0 11 = INVALID
            entry 1 11 = INVALID
            note 1 = 1
            undo = 0
            entry 1 3 = INVALID
            """);
        bounds.complete();
    }

    private static void balance(Bounds bounds) {
        bounds.section("Promise 21");
        bounds.sentence("Returns a balance.", """
            balance 0 0 = 0
            59 deposit 1 999
            balance 1 59 = 58941
            """);
        bounds.sentence("`account`: 0 to 5", """
            deposit 0 7 = 1
            deposit 5 9 = 2
            balance -1 2 = INVALID
            balance 0 2 = 7
            balance 5 2 = 9
            balance 6 2 = INVALID
            """);
        bounds.sentence("`entry`: an entry", """
            balance 0 -1 = INVALID
            balance 0 0 = 0
            balance 0 1 = INVALID
            59 deposit 0 1
            balance 0 59 = 59
            balance 0 60 = INVALID
            """);
        bounds.sentence("Returns the balance of the account at the entry;", """
            deposit 1 5 = 1
            pay 1 2 5 = 2
            goBack 1 = 0
            fee 1 4 = 3
            balance 1 0 = 0
            balance 1 1 = 5
            balance 1 2 = 0
            balance 2 2 = 5
            balance 1 3 = 1
            balance 2 3 = 0
            balance 0 3 = 4
            """);
        bounds.sentence("INVALID_ARGUMENT if an argument is out of range, or there is no such entry.", """
            balance MIN 0 = INVALID
            balance MAX 0 = INVALID
            balance NONE 0 = INVALID
            balance 65536 0 = INVALID
            balance 0 MIN = INVALID
            balance 0 MAX = INVALID
            balance 0 NONE = INVALID
            balance 0 65536 = INVALID
            balance 6 1 = INVALID
            deposit 1 1 = 1
            undo = 0
            balance 1 1 = INVALID
            """);
        bounds.complete();
    }

    private static void onChain(Bounds bounds) {
        bounds.section("Promise 22");
        bounds.sentence("Returns an entry of the chain.", """
            onChain 0 = 0
            note 1 = 1
            goBack 0 = 0
            note 2 = 2
            onChain 0 = 0
            onChain 1 = 2
            onChain 2 = NONE
            """);
        bounds.sentence("`place`: 0 or more, from the entry 0 on", """
            onChain -1 = INVALID
            onChain 0 = 0
            onChain MAX = NONE
            59 note 1
            onChain 0 = 0
            onChain 1 = 1
            onChain 59 = 59
            onChain 60 = NONE
            """);
        bounds.sentence("Returns the entry;", """
            57 note 1
            goBack 1 = 0
            note 2 = 58
            note 2 = 59
            onChain 1 = 1
            onChain 2 = 58
            onChain 3 = 59
            onChain 4 = NONE
            """);
        bounds.sentence("INVALID_ARGUMENT if place is negative;", """
            onChain -1 = INVALID
            onChain -2 = INVALID
            onChain MIN = INVALID
            onChain NONE = INVALID
            59 note 1
            onChain -1 = INVALID
            """);
        bounds.sentence("NONE if the chain is not so long.", """
            onChain 0 = 0
            onChain 1 = NONE
            onChain MAX = NONE
            onChain 65536 = NONE
            59 note 1
            onChain 59 = 59
            onChain 60 = NONE
            onChain 61 = NONE
            goBack 0 = 0
            onChain 0 = 0
            onChain 1 = NONE
            onChain 59 = NONE
            """);
        bounds.complete();
    }

    private static void branch(Bounds bounds) {
        bounds.section("Promise 23");
        bounds.sentence("Tells about a branch.", """
            note 1 = 1
            goBack 0 = 0
            branch 0 0 = 1
            branch 0 5 = 0
            """);
        bounds.sentence("`branch`: a branch", """
            branch 0 0 = INVALID
            note 1 = 1
            goBack 0 = 0
            branch -1 0 = INVALID
            branch 0 0 = 1
            branch 1 0 = INVALID
            new
            """ + ChainBounds.branches(10, 0) + """
            branch 9 0 = 10
            branch 10 0 = INVALID
            """);
        bounds.sentence("`what`: 0 its leaf", """
            note 1 = 1
            goBack 0 = 0
            branch 0 0 = 1
            dismiss 0 = 2
            57 note 1
            goBack 0 = 1
            branch 0 0 = 1
            branch 1 0 = 59
            """);
        bounds.sentence("1 the number of its entries", """
            note 1 = 1
            goBack 0 = 0
            branch 0 1 = 1
            new
            59 note 1
            goBack 58 = 0
            branch 0 1 = 1
            goBack 0 = 1
            branch 0 1 = 1
            branch 1 1 = 58
            new
            59 note 1
            goBack 0 = 0
            branch 0 1 = 59
            """);
        bounds.sentence("2 the first of these", """
            59 note 1
            goBack 58 = 0
            branch 0 2 = 59
            goBack 0 = 1
            branch 0 2 = 59
            branch 1 2 = 1
            """);
        bounds.sentence("3 its pleas", """
            note 1 = 1
            goBack 0 = 0
            branch 0 3 = 0
            note 2 = 2
            branch 0 3 = 1
            # 30 at most
            setPatience 30 = 3
            29 note 3
            branch 0 3 = 30
            note 3 = ILLEGAL
            branch 0 3 = 30
            # they stay behind dismiss()
            dismiss 0 = 32
            note 3 = 33
            branch 0 3 = 30
            """);
        bounds.sentence("4 its state (0 waiting, 1 loud, 2 adopted, 3 dismissed)", """
            setPatience 1 = 3
            note 1 = 1
            goBack 0 = 0
            branch 0 4 = 0
            note 2 = 2
            branch 0 4 = 1
            adopt 0 0 = 1
            branch 0 4 = 2
            goBack 0 = 1
            dismiss 1 = 4
            branch 1 4 = 3
            # with pleas that would do, it is loud no more
            undo = 4
            note 5 = 4
            branch 1 4 = 1
            dismiss 1 = 5
            branch 1 3 = 1
            branch 1 4 = 3
            branch 0 3 = 1
            branch 0 4 = 2
            """);
        bounds.sentence("5 the latest entry that is on the path of its leaf and on the chain", """
            note 1 = 1
            note 2 = 2
            note 3 = 3
            goBack 2 = 0
            branch 0 5 = 2
            note 4 = 4
            branch 0 5 = 2
            goBack 1 = 1
            branch 0 5 = 1
            branch 1 5 = 1
            goBack 0 = 2
            branch 0 5 = 0
            branch 1 5 = 0
            # what is written anew is another entry
            adopt 0 0 = 1
            branch 0 5 = 0
            new
            59 note 1
            goBack 58 = 0
            branch 0 5 = 58
            goBack 0 = 1
            branch 0 5 = 0
            """);
        bounds.sentence("Returns the value;", """
            2 note 1
            goBack 1 = 0
            note 3 = 3
            branch 0 0 = 2
            branch 0 1 = 1
            branch 0 2 = 2
            branch 0 3 = 1
            branch 0 4 = 0
            branch 0 5 = 1
            """);
        bounds.sentence("INVALID_ARGUMENT if there is no such branch or what is out of range.", """
            note 1 = 1
            goBack 0 = 0
            branch MIN 0 = INVALID
            branch MAX 0 = INVALID
            branch NONE 0 = INVALID
            branch 65536 0 = INVALID
            branch 0 -1 = INVALID
            branch 0 6 = INVALID
            branch 0 MIN = INVALID
            branch 0 MAX = INVALID
            branch 0 65536 = INVALID
            branch 1 6 = INVALID
            undo = 1
            branch 0 0 = INVALID
            """);
        bounds.complete();
    }

    private static void sealed(Bounds bounds) {
        bounds.section("Promise 24");
        bounds.sentence("Tells about a seal.", """
            seal = 0
            sealed 0 0 = 0
            sealed 0 1 = 1
            sealed 0 2 = 1
            """);
        bounds.sentence("`seal`: a seal", """
            sealed 0 0 = INVALID
            seal = 0
            sealed -1 0 = INVALID
            sealed 0 0 = 0
            sealed 1 0 = INVALID
            note 1 = 1
            6 seal
            seal = 7
            sealed 7 0 = 1
            sealed 8 0 = INVALID
            """);
        bounds.sentence("`what`: 0 its entry", """
            seal = 0
            59 note 1
            seal = 1
            goBack 0 = 0
            sealed 0 0 = 0
            sealed 1 0 = 59
            """);
        bounds.sentence("1 its link", """
            seal = 0
            sealed 0 1 = 1
            note 582 = 1
            seal = 1
            sealed 1 1 = 9972
            forge 1 0 = 582
            relink 1 = 1
            sealed 1 1 = 9972
            new
            deposit 3 581 = 1
            seal = 0
            sealed 0 1 = 0
            """);
        bounds.sentence("2 1 if it fits and 0 if not", """
            seal = 0
            note 1 = 1
            seal = 1
            sealed 0 2 = 1
            sealed 1 2 = 1
            forge 1 2 = 1
            sealed 1 2 = 1
            relink 1 = 1
            sealed 1 2 = 0
            sealed 0 2 = 1
            """);
        bounds.sentence("Returns the value;", """
            note 1 = 1
            seal = 0
            sealed 0 0 = 1
            sealed 0 1 = 95
            sealed 0 2 = 1
            """);
        bounds.sentence("INVALID_ARGUMENT if there is no such seal or what is out of range.", """
            seal = 0
            sealed MIN 0 = INVALID
            sealed MAX 0 = INVALID
            sealed NONE 0 = INVALID
            sealed 65536 0 = INVALID
            sealed 0 -1 = INVALID
            sealed 0 3 = INVALID
            sealed 0 MIN = INVALID
            sealed 0 MAX = INVALID
            sealed 0 65536 = INVALID
            sealed 1 3 = INVALID
            undo = 0
            sealed 0 0 = INVALID
            """);
        bounds.complete();
    }

    private static void common(Bounds bounds) {
        bounds.section("Promise 25");
        bounds.sentence("Returns the latest entry that is on the paths of two entries.", """
            common 0 0 = 0
            note 1 = 1
            note 2 = 2
            goBack 1 = 0
            note 3 = 3
            common 2 3 = 1
            common 3 2 = 1
            common 1 3 = 1
            common 0 3 = 0
            common 3 3 = 3
            common 2 2 = 2
            # two paths of 30 entries that have the entry 0 alone in common, and one of 60
            new
            setPatience 30 = 3
            30 note 1
            goBack 0 = 0
            29 note 1
            common 30 59 = 0
            common 59 30 = 0
            common 1 31 = 0
            new
            59 note 1
            common 0 59 = 0
            common 59 0 = 0
            common 58 59 = 58
            common 59 59 = 59
            """);
        bounds.sentence("`one`: an entry", """
            common -1 0 = INVALID
            common 1 0 = INVALID
            common 0 0 = 0
            59 note 1
            common 59 1 = 1
            common 60 1 = INVALID
            """);
        bounds.sentence("`other`: an entry", """
            common 0 -1 = INVALID
            common 0 1 = INVALID
            common 0 0 = 0
            59 note 1
            common 1 59 = 1
            common 1 60 = INVALID
            """);
        bounds.sentence("Returns the entry;", """
            note 1 = 1
            common 1 1 = 1
            common 1 0 = 0
            goBack 0 = 0
            adopt 0 0 = 1
            common 1 2 = 0
            """);
        bounds.sentence("INVALID_ARGUMENT if there are no such entries.", """
            common MIN 0 = INVALID
            common MAX 0 = INVALID
            common NONE 0 = INVALID
            common 0 MIN = INVALID
            common 0 MAX = INVALID
            common 0 NONE = INVALID
            common 65536 0 = INVALID
            common 0 65536 = INVALID
            common 1 1 = INVALID
            common -1 -1 = INVALID
            note 1 = 1
            common 1 2 = INVALID
            common 2 1 = INVALID
            undo = 0
            common 1 1 = INVALID
            """);
        bounds.complete();
    }
}
