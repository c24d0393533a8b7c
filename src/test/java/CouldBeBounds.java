/** Boundary cases of promises 26 to 28: failing, orders, peak. */
final class CouldBeBounds {
    private CouldBeBounds() {
    }

    static void all(Bounds bounds) {
        failing(bounds);
        orders(bounds);
        peak(bounds);
    }

    private static void failing(Bounds bounds) {
        bounds.section("Promise 26");
        bounds.sentence("Tells why a branch could not be adopted at the head.", """
            deposit 1 5 = 1
            fee 1 5 = 2
            goBack 1 = 0
            failing 0 0 = NONE
            failing 0 1 = 1
            # at a head that has less, and at one that has more
            goBack 0 = 1
            failing 0 0 = 2
            failing 0 1 = 0
            deposit 1 4 = 3
            failing 0 0 = 2
            deposit 1 1 = 4
            failing 0 0 = NONE
            """);
        bounds.sentence("`branch`: a branch, whatever its state", """
            failing 0 0 = INVALID
            note 1 = 1
            goBack 0 = 0
            failing -1 0 = INVALID
            failing 0 0 = NONE
            failing 0 1 = 1
            failing 1 0 = INVALID
            # loud, adopted, dismissed
            setPatience 1 = 3
            note 2 = 2
            branch 0 4 = 1
            failing 0 1 = 1
            adopt 0 0 = 1
            failing 0 0 = NONE
            failing 0 1 = 1
            new
            deposit 1 5 = 1
            goBack 0 = 0
            dismiss 0 = 2
            failing 0 0 = NONE
            failing 0 1 = 1
            new
            """ + ChainBounds.branches(10, 0) + """
            failing 9 1 = 1
            failing 10 1 = INVALID
            """);
        bounds.sentence("`what`: 0 for the first of its entries that would fail (NONE if none would)", """
            # the first of all, the last of all, and none
            deposit 1 50 = 1
            fee 1 20 = 2
            note 1 = 3
            fee 1 30 = 4
            goBack 1 = 0
            failing 0 0 = NONE
            fee 1 1 = 5
            failing 0 0 = 4
            fee 1 30 = 6
            failing 0 0 = 2
            deposit 1 31 = 7
            failing 0 0 = NONE
            # 59 entries, of which the last one fails
            new
            deposit 1 5 = 1
            57 note 1
            fee 1 5 = 59
            goBack 0 = 0
            failing 0 0 = NONE
            failing 0 1 = 59
            new
            deposit 1 5 = 1
            57 note 1
            fee 1 5 = 59
            goBack 1 = 0
            goBack 0 = 1
            failing 0 0 = 59
            failing 0 1 = 57
            """);
        bounds.sentence("1 for how many of its entries would be written if those that fail are left out", """
            # all of them, the first one, the last one and none
            deposit 1 50 = 1
            fee 1 30 = 2
            fee 1 20 = 3
            goBack 1 = 0
            failing 0 1 = 2
            fee 1 1 = 4
            failing 0 0 = 3
            failing 0 1 = 1
            fee 1 29 = 5
            failing 0 0 = 2
            failing 0 1 = 1
            fee 1 1 = 6
            failing 0 1 = 0
            adopt 0 1 = 0
            # the room is of no matter
            new
            59 note 1
            goBack 0 = 0
            failing 0 1 = 59
            adopt 0 1 = FULL
            """);
        bounds.sentence("Returns the value;", """
            deposit 1 5 = 1
            fee 1 5 = 2
            note 1 = 3
            goBack 1 = 0
            goBack 0 = 1
            failing 0 0 = 2
            failing 0 1 = 1
            failing 1 0 = NONE
            failing 1 1 = 1
            """);
        bounds.sentence("INVALID_ARGUMENT if there is no such branch or what is out of range.", """
            note 1 = 1
            goBack 0 = 0
            failing MIN 0 = INVALID
            failing MAX 0 = INVALID
            failing NONE 0 = INVALID
            failing 65536 0 = INVALID
            failing 0 -1 = INVALID
            failing 0 2 = INVALID
            failing 0 MIN = INVALID
            failing 0 MAX = INVALID
            failing 0 65537 = INVALID
            failing 1 2 = INVALID
            undo = 1
            failing 0 0 = INVALID
            """);
        bounds.complete();
    }

    private static void orders(Bounds bounds) {
        bounds.section("Promise 27");
        bounds.sentence("Tells in how many orders all waiting branches could be adopted one behind another, so that no entry fails", """
            # none of one
            deposit 1 5 = 1
            fee 1 5 = 2
            goBack 1 = 0
            orders = 1
            goBack 0 = 1
            # the branch 1 brings what the branch 0 takes
            orders = 1
            adopt 0 1 = 0
            orders = 1
            new
            deposit 1 5 = 1
            fee 1 5 = 2
            goBack 1 = 0
            fee 1 1 = 3
            orders = 0
            deposit 1 1 = 4
            orders = 1
            # two that take what is there for one alone, and for both
            new
            deposit 1 9 = 1
            fee 1 5 = 2
            goBack 1 = 0
            fee 1 5 = 3
            goBack 1 = 1
            orders = 0
            deposit 1 1 = 4
            orders = 2
            # three of which each needs what the one before it brings, and one and two that need nothing
            new
            deposit 1 5 = 1
            pay 1 2 5 = 2
            fee 2 5 = 3
            goBack 2 = 0
            goBack 1 = 1
            goBack 0 = 2
            orders = 1
            note 7 = 4
            goBack 0 = 3
            orders = 4
            deposit 5 7 = 5
            goBack 0 = 4
            orders = 20
            # a branch that fails midway, though in sum it takes nothing
            new
            deposit 1 5 = 1
            fee 1 5 = 2
            deposit 1 5 = 3
            goBack 1 = 0
            fee 1 1 = 4
            orders = 0
            """);
        bounds.sentence("and the number of entries is of no matter.", """
            59 note 1
            goBack 0 = 0
            orders = 1
            adopt 0 0 = FULL
            new
            setPatience 30 = 3
            56 note 1
            goBack 0 = 0
            note 1 = 57
            goBack 0 = 1
            note 1 = 58
            goBack 0 = 2
            orders = 6
            note 1 = 59
            orders = 6
            """);
        bounds.sentence("Returns the number of orders;", ChainBounds.branches(1, 0) + """
            orders = 1
            note 1 = 2
            goBack 0 = 1
            orders = 2
            note 1 = 3
            goBack 0 = 2
            orders = 6
            note 1 = 4
            goBack 0 = 3
            orders = 24
            note 1 = 5
            goBack 0 = 4
            orders = 120
            # five of which each needs what the one before it brings
            new
            setPatience 30 = 3
            deposit 1 1 = 1
            pay 1 2 1 = 2
            pay 2 3 1 = 3
            pay 3 4 1 = 4
            pay 4 5 1 = 5
            fee 5 1 = 6
            goBack 5 = 0
            goBack 4 = 1
            goBack 3 = 2
            goBack 2 = 3
            goBack 1 = 4
            orders = 1
            # the branch 4 alone can be the first of them
            adopt 4 0 = 1
            orders = 1
            fee 2 1 = 8
            orders = 0
            """);
        bounds.sentence("1 if no branch is waiting;", """
            orders = 1
            note 1 = 1
            goBack 0 = 0
            dismiss 0 = 2
            orders = 1
            goBack 0 = 1
            adopt 1 0 = 1
            orders = 1
            # though an adopted one could not be adopted once more
            new
            deposit 1 5 = 1
            fee 1 5 = 2
            goBack 1 = 0
            adopt 0 0 = 1
            failing 0 0 = 2
            orders = 1
            """);
        bounds.sentence("NONE if more than 5 are waiting.", ChainBounds.branches(5, 0) + """
            orders = 120
            note 1 = 6
            goBack 0 = 5
            orders = NONE
            # loud ones are waiting
            setPatience 1 = 30
            count 5 = 5
            orders = NONE
            dismiss 0 = 7
            orders = 120
            undo = 4
            adopt 5 0 = 1
            orders = 120
            # ten, also if they could not be adopted
            new
            deposit 1 5 = 1
            """ + ChainBounds.branches(9, 1) + """
            fee 1 5 = 11
            goBack 1 = 9
            fee 1 1 = 12
            orders = NONE
            """);
        bounds.complete();
    }

    private static void peak(Bounds bounds) {
        bounds.section("Promise 28");
        bounds.sentence("Finds the greatest balance of an account at the entries of the chain.", """
            peak 1 0 = 0
            deposit 1 5 = 1
            fee 1 5 = 2
            peak 1 0 = 5
            # those of orphans are of no matter
            goBack 0 = 0
            peak 1 0 = 0
            peak 1 1 = 0
            deposit 1 4 = 3
            peak 1 0 = 4
            """);
        bounds.sentence("`account`: 0 to 5", """
            deposit 0 7 = 1
            deposit 5 9 = 2
            peak -1 0 = INVALID
            peak 0 0 = 7
            peak 0 1 = 1
            peak 5 0 = 9
            peak 5 1 = 2
            peak 6 0 = INVALID
            """);
        bounds.sentence("`what`: 0 for this balance", """
            peak 1 0 = 0
            59 deposit 1 999
            peak 1 0 = 58941
            peak 2 0 = 0
            new
            deposit 1 9 = 1
            fee 1 1 = 2
            deposit 1 1 = 3
            peak 1 0 = 9
            deposit 1 1 = 4
            peak 1 0 = 10
            """);
        bounds.sentence("1 for the first entry of the chain with it", """
            peak 1 1 = 0
            note 1 = 1
            peak 1 1 = 0
            deposit 1 9 = 2
            note 1 = 3
            peak 1 1 = 2
            fee 1 1 = 4
            deposit 1 1 = 5
            peak 1 1 = 2
            deposit 1 1 = 6
            peak 1 1 = 6
            peak 2 1 = 0
            # the last of 60
            new
            59 deposit 1 1
            peak 1 1 = 59
            """);
        bounds.sentence("Returns the value;", """
            deposit 1 3 = 1
            deposit 1 4 = 2
            peak 1 0 = 7
            peak 1 1 = 2
            """);
        bounds.sentence("INVALID_ARGUMENT if an argument is out of range.", """
            peak MIN 0 = INVALID
            peak MAX 0 = INVALID
            peak NONE 0 = INVALID
            peak 65536 0 = INVALID
            peak 1 -1 = INVALID
            peak 1 2 = INVALID
            peak 1 MIN = INVALID
            peak 1 MAX = INVALID
            peak 1 65537 = INVALID
            peak 6 2 = INVALID
            """);
        bounds.complete();
    }
}
