/** Boundary cases of promises 1 to 5: a new object, deposit, pay, fee, note. */
final class WritingBounds {
    private WritingBounds() {
    }

    static void all(Bounds bounds) {
        newObject(bounds);
        deposit(bounds);
        depositErrors(bounds);
        pay(bounds);
        payErrors(bounds);
        fee(bounds);
        feeErrors(bounds);
        note(bounds);
    }

    private static void newObject(Bounds bounds) {
        bounds.section("Promise 1");
        bounds.sentence("Creates a chain of the entry 0", """
            count 0 = 1
            count 1 = 0
            count 2 = 1
            count 3 = 0
            count 4 = 0
            count 5 = 0
            count 6 = 3
            count 7 = 0
            count 8 = 0
            count 9 = 0
            count 10 = NONE
            count 11 = 1
            count 12 = 0
            count 13 = 0
            entry 0 0 = 0
            entry 0 7 = 1
            entry 0 9 = 1
            entry 0 10 = 0
            entry 1 0 = INVALID
            balance 0 0 = 0
            balance 0 1 = INVALID
            onChain 0 = 0
            onChain 1 = NONE
            branch 0 0 = INVALID
            sealed 0 0 = INVALID
            common 0 0 = 0
            common 0 1 = INVALID
            failing 0 0 = INVALID
            orders = 1
            peak 0 0 = 0
            peak 0 1 = 0
            adopt 0 0 = INVALID
            dismiss 0 = INVALID
            restore 0 = ILLEGAL
            undo = ILLEGAL
            """);
        bounds.sentence("with an empty text.", """
            count 14 = 0
            check = -1000
            clearText = 0
            append 48 = 1
            new
            count 14 = 0
            check = -1000
            """);
        bounds.complete();
    }

    private static void deposit(Bounds bounds) {
        bounds.section("Promise 2");
        bounds.sentence("Writes a deposit.", """
            deposit 1 1 = 1
            entry 1 0 = 1
            entry 1 1 = 0
            entry 1 2 = 1
            entry 1 3 = 1
            entry 1 4 = 0
            entry 1 8 = NONE
            count 1 = 1
            balance 1 1 = 1
            balance 1 0 = 0
            """);
        bounds.sentence("This is an action.", """
            count 13 = 0
            deposit 1 1 = 1
            count 13 = 1
            deposit 1 0 = INVALID
            count 13 = 1
            undo = 0
            count 0 = 1
            """);
        bounds.sentence("`to`: 0 to 5", """
            deposit -1 1 = INVALID
            deposit 0 1 = 1
            deposit 5 1 = 2
            deposit 6 1 = INVALID
            balance 0 2 = 1
            balance 5 2 = 1
            """);
        bounds.sentence("`amount`: 1 to 999", """
            deposit 1 -1 = INVALID
            deposit 1 0 = INVALID
            deposit 1 1 = 1
            deposit 1 999 = 2
            deposit 1 1000 = INVALID
            balance 1 2 = 1000
            """);
        bounds.sentence("Returns the number of the entry;", """
            deposit 1 1 = 1
            deposit 1 1 = 2
            56 note 1
            deposit 1 1 = 59
            # those of orphans count
            new
            note 1 = 1
            goBack 0 = 0
            deposit 1 1 = 2
            """);
    }

    private static void depositErrors(Bounds bounds) {
        bounds.sentence("INVALID_ARGUMENT if an argument is out of range;", """
            deposit MIN 1 = INVALID
            deposit MAX 1 = INVALID
            deposit 1 MIN = INVALID
            deposit 1 MAX = INVALID
            deposit NONE 1 = INVALID
            deposit 1 NONE = INVALID
            deposit 6 0 = INVALID
            # 2 to the power 16 and 2 to the power 24 more than what is allowed
            deposit 65537 1 = INVALID
            deposit 1 65537 = INVALID
            deposit 1 16777217 = INVALID
            count 0 = 1
            # in a full chain, and where a branch is loud
            59 deposit 1 1
            deposit 6 1 = INVALID
            deposit 1 1000 = INVALID
            new
            """ + ChainBounds.LOUD + """
            deposit -1 1 = INVALID
            deposit 1 0 = INVALID
            """);
        bounds.sentence("ILLEGAL_STATE if a branch is loud;", """
            note 1 = 1
            goBack 0 = 0
            deposit 1 1 = 2
            deposit 1 1 = 3
            count 5 = 0
            deposit 1 1 = 4
            count 5 = 1
            deposit 1 1 = ILLEGAL
            setPatience 4 = 3
            deposit 1 1 = 5
            deposit 1 1 = ILLEGAL
            dismiss 0 = 6
            deposit 1 1 = 7
            """);
        bounds.sentence("CAPACITY_EXCEEDED if there are 60 entries.", """
            58 deposit 1 1
            deposit 1 1 = 59
            deposit 1 1 = FULL
            goBack 0 = 0
            deposit 1 1 = FULL
            count 0 = 60
            branch 0 3 = 0
            undo = 4
            undo = 3
            deposit 1 1 = 59
            """);
        bounds.complete();
    }

    private static void pay(Bounds bounds) {
        bounds.section("Promise 3");
        bounds.sentence("Writes a payment.", """
            deposit 1 2 = 1
            pay 1 2 1 = 2
            entry 2 0 = 2
            entry 2 1 = 1
            entry 2 2 = 2
            entry 2 3 = 1
            entry 2 4 = 1
            entry 2 8 = NONE
            count 1 = 2
            balance 1 2 = 1
            balance 2 2 = 1
            balance 0 2 = 0
            entry 2 10 = 2
            """);
        bounds.sentence("This is an action.", """
            deposit 1 1 = 1
            pay 1 2 1 = 2
            count 13 = 2
            pay 1 2 1 = ILLEGAL
            pay 2 2 1 = INVALID
            count 13 = 2
            undo = 1
            count 0 = 2
            balance 1 1 = 1
            """);
        bounds.sentence("`from`: 1 to 5", """
            deposit 0 9 = 1
            deposit 1 9 = 2
            deposit 5 9 = 3
            pay -1 2 1 = INVALID
            pay 0 2 1 = INVALID
            pay 1 2 1 = 4
            pay 5 2 1 = 5
            pay 6 2 1 = INVALID
            """);
        bounds.sentence("`to`: 1 to 5", """
            deposit 2 9 = 1
            pay 2 -1 1 = INVALID
            pay 2 0 1 = INVALID
            pay 2 1 1 = 2
            pay 2 5 1 = 3
            pay 2 6 1 = INVALID
            balance 1 3 = 1
            balance 5 3 = 1
            """);
        bounds.sentence("`amount`: 1 to 999", """
            deposit 1 999 = 1
            deposit 1 999 = 2
            pay 1 2 -1 = INVALID
            pay 1 2 0 = INVALID
            pay 1 2 1 = 3
            pay 1 2 999 = 4
            pay 1 2 1000 = INVALID
            balance 1 4 = 998
            balance 2 4 = 1000
            """);
        bounds.sentence("Returns the number of the entry;", """
            deposit 1 9 = 1
            pay 1 2 1 = 2
            pay 2 1 1 = 3
            55 note 1
            pay 1 2 1 = 59
            """);
    }

    private static void payErrors(Bounds bounds) {
        bounds.sentence("INVALID_ARGUMENT if an argument is out of range", """
            deposit 1 9 = 1
            pay MIN 2 1 = INVALID
            pay MAX 2 1 = INVALID
            pay 1 MIN 1 = INVALID
            pay 1 MAX 1 = INVALID
            pay 1 2 MIN = INVALID
            pay 1 2 MAX = INVALID
            pay NONE 2 1 = INVALID
            pay 65537 2 1 = INVALID
            pay 1 65538 1 = INVALID
            pay 1 2 65537 = INVALID
            pay 6 6 0 = INVALID
            pay 0 0 1 = INVALID
            # where the balance is too little, and in a full chain
            pay 2 0 1 = INVALID
            pay 2 1 0 = INVALID
            pay 2 1 1000 = INVALID
            58 note 1
            pay 1 6 1 = INVALID
            pay 0 1 1 = INVALID
            pay 1 2 0 = INVALID
            """);
        bounds.sentence("or both accounts are the same;", """
            deposit 1 9 = 1
            deposit 5 9 = 2
            pay 1 1 1 = INVALID
            pay 5 5 1 = INVALID
            pay 2 2 1 = INVALID
            pay 1 5 1 = 3
            pay 5 1 1 = 4
            # in a full chain, and where a branch is loud
            55 note 1
            pay 1 1 1 = INVALID
            new
            """ + ChainBounds.LOUD + """
            pay 1 1 1 = INVALID
            pay 2 2 1 = INVALID
            """);
        bounds.sentence("ILLEGAL_STATE if a branch is loud", """
            deposit 1 9 = 1
            note 1 = 2
            goBack 1 = 0
            pay 1 2 1 = 3
            pay 1 2 1 = 4
            pay 1 2 1 = 5
            branch 0 3 = 3
            pay 1 2 1 = ILLEGAL
            setPatience 4 = 3
            pay 1 2 1 = 6
            pay 1 2 1 = ILLEGAL
            adopt 0 0 = 1
            pay 1 2 1 = 8
            """);
        bounds.sentence("or the balance of the first account at the head is less than the amount;", """
            pay 1 2 1 = ILLEGAL
            deposit 1 9 = 1
            deposit 2 99 = 2
            pay 1 2 10 = ILLEGAL
            pay 3 2 1 = ILLEGAL
            pay 1 2 9 = 3
            pay 1 2 1 = ILLEGAL
            balance 1 3 = 0
            # at the head, not at a later entry, or at one of a branch
            new
            deposit 1 9 = 1
            deposit 1 9 = 2
            goBack 1 = 0
            pay 1 2 10 = ILLEGAL
            pay 1 2 9 = 3
            goBack 0 = 1
            pay 1 2 1 = ILLEGAL
            pay 2 1 1 = ILLEGAL
            # the greatest amount
            new
            deposit 1 998 = 1
            pay 1 2 999 = ILLEGAL
            deposit 1 1 = 2
            pay 1 2 999 = 3
            """);
        bounds.sentence("CAPACITY_EXCEEDED if there are 60 entries.", """
            deposit 1 9 = 1
            57 note 1
            pay 1 2 1 = 59
            pay 1 2 1 = FULL
            pay 1 2 8 = FULL
            pay 1 2 9 = ILLEGAL
            count 0 = 60
            """);
        bounds.complete();
    }

    private static void fee(Bounds bounds) {
        bounds.section("Promise 4");
        bounds.sentence("Writes a fee.", """
            deposit 1 2 = 1
            fee 1 1 = 2
            entry 2 0 = 3
            entry 2 1 = 1
            entry 2 2 = 0
            entry 2 3 = 1
            entry 2 4 = 1
            entry 2 8 = NONE
            count 1 = 2
            balance 1 2 = 1
            balance 0 2 = 1
            """);
        bounds.sentence("This is an action.", """
            deposit 1 1 = 1
            fee 1 1 = 2
            count 13 = 2
            fee 1 1 = ILLEGAL
            fee 0 1 = INVALID
            count 13 = 2
            undo = 1
            count 0 = 2
            """);
        bounds.sentence("`from`: 1 to 5", """
            deposit 0 9 = 1
            deposit 1 9 = 2
            deposit 5 9 = 3
            fee -1 1 = INVALID
            fee 0 1 = INVALID
            fee 1 1 = 4
            fee 5 1 = 5
            fee 6 1 = INVALID
            """);
        bounds.sentence("`amount`: 1 to 999", """
            deposit 1 999 = 1
            deposit 1 999 = 2
            fee 1 -1 = INVALID
            fee 1 0 = INVALID
            fee 1 1 = 3
            fee 1 999 = 4
            fee 1 1000 = INVALID
            balance 1 4 = 998
            balance 0 4 = 1000
            """);
        bounds.sentence("Returns the number of the entry;", """
            deposit 1 9 = 1
            fee 1 1 = 2
            fee 1 1 = 3
            55 note 1
            fee 1 1 = 59
            """);
    }

    private static void feeErrors(Bounds bounds) {
        bounds.sentence("INVALID_ARGUMENT if an argument is out of range;", """
            deposit 1 9 = 1
            fee MIN 1 = INVALID
            fee MAX 1 = INVALID
            fee 1 MIN = INVALID
            fee 1 MAX = INVALID
            fee NONE 1 = INVALID
            fee 65537 1 = INVALID
            fee 1 65537 = INVALID
            fee 6 0 = INVALID
            # where the balance is too little, a branch is loud, or the chain full
            fee 2 0 = INVALID
            fee 2 1000 = INVALID
            58 note 1
            fee 0 1 = INVALID
            fee 1 0 = INVALID
            new
            """ + ChainBounds.LOUD + """
            fee 0 1 = INVALID
            fee 1 1000 = INVALID
            """);
        bounds.sentence("ILLEGAL_STATE if a branch is loud", """
            deposit 1 9 = 1
            note 1 = 2
            goBack 1 = 0
            fee 1 1 = 3
            fee 1 1 = 4
            fee 1 1 = 5
            branch 0 3 = 3
            fee 1 1 = ILLEGAL
            setPatience 4 = 3
            fee 1 1 = 6
            fee 1 1 = ILLEGAL
            adopt 0 0 = 1
            fee 1 1 = 8
            """);
        bounds.sentence("or the balance of the account at the head is less than the amount;", """
            fee 1 1 = ILLEGAL
            deposit 1 9 = 1
            deposit 2 99 = 2
            fee 1 10 = ILLEGAL
            fee 3 1 = ILLEGAL
            fee 1 9 = 3
            fee 1 1 = ILLEGAL
            balance 1 3 = 0
            balance 0 3 = 9
            # at the head, not at a later entry
            new
            deposit 1 9 = 1
            deposit 1 9 = 2
            goBack 1 = 0
            fee 1 10 = ILLEGAL
            fee 1 9 = 3
            goBack 0 = 1
            fee 1 1 = ILLEGAL
            # the greatest amount
            new
            deposit 1 998 = 1
            fee 1 999 = ILLEGAL
            deposit 1 1 = 2
            fee 1 999 = 3
            """);
        bounds.sentence("CAPACITY_EXCEEDED if there are 60 entries.", """
            deposit 1 9 = 1
            57 note 1
            fee 1 1 = 59
            fee 1 1 = FULL
            fee 1 8 = FULL
            fee 1 9 = ILLEGAL
            count 0 = 60
            """);
        bounds.complete();
    }

    private static void note(Bounds bounds) {
        bounds.section("Promise 5");
        bounds.sentence("Writes a note.", """
            note 1 = 1
            entry 1 0 = 4
            entry 1 1 = 0
            entry 1 2 = 0
            entry 1 3 = 1
            entry 1 4 = 0
            entry 1 8 = NONE
            entry 1 10 = 0
            count 1 = 1
            """);
        bounds.sentence("This is an action.", """
            note 0 = 1
            count 13 = 1
            note 1000 = INVALID
            count 13 = 1
            undo = 0
            count 0 = 1
            """);
        bounds.sentence("`code`: 0 to 999", """
            note -1 = INVALID
            note 0 = 1
            note 999 = 2
            note 1000 = INVALID
            entry 1 3 = 0
            entry 2 3 = 999
            """);
        bounds.sentence("Returns the number of the entry;", """
            note 7 = 1
            note 7 = 2
            56 note 1
            note 7 = 59
            """);
        bounds.sentence("INVALID_ARGUMENT if code is out of range;", """
            note MIN = INVALID
            note MAX = INVALID
            note NONE = INVALID
            note 65536 = INVALID
            note 16777216 = INVALID
            59 note 1
            note -1 = INVALID
            note 1000 = INVALID
            new
            """ + ChainBounds.LOUD + """
            note -1 = INVALID
            note 1000 = INVALID
            """);
        bounds.sentence("ILLEGAL_STATE if a branch is loud;", """
            note 1 = 1
            goBack 0 = 0
            note 1 = 2
            note 1 = 3
            note 1 = 4
            branch 0 3 = 3
            note 1 = ILLEGAL
            setPatience 4 = 3
            note 1 = 5
            note 1 = ILLEGAL
            adopt 0 0 = 1
            note 1 = 7
            """);
        bounds.sentence("CAPACITY_EXCEEDED if there are 60 entries.", """
            58 note 1
            note 1 = 59
            note 1 = FULL
            note 0 = FULL
            count 0 = 60
            undo = 4
            note 2 = 59
            note 2 = FULL
            """);
        bounds.complete();
    }
}
