/** Boundary cases of promises 13 to 15: take, restore, undo. */
final class SnapshotsBounds {
    private SnapshotsBounds() {
    }

    static void all(Bounds bounds) {
        take(bounds);
        restore(bounds);
        undo(bounds);
    }

    private static void take(Bounds bounds) {
        bounds.section("Promise 13");
        bounds.sentence("Takes a snapshot, in place of one that is there.", """
            take 0 = 1
            count 12 = 1
            note 1 = 1
            take 0 = 2
            count 12 = 1
            note 2 = 2
            restore 0 = 2
            # the other slot stays
            note 2 = 2
            take 1 = 3
            take 0 = 3
            note 3 = 3
            take 0 = 4
            restore 1 = 3
            restore 0 = 4
            count 12 = 2
            """);
        bounds.sentence("This is an action.", """
            take 0 = 1
            take 0 = 1
            count 13 = 2
            take 2 = INVALID
            count 13 = 2
            undo = 1
            count 12 = 1
            undo = 0
            count 12 = 0
            """);
        bounds.sentence("`slot`: 0 or 1", """
            take -1 = INVALID
            take 0 = 1
            note 1 = 1
            take 1 = 2
            take 2 = INVALID
            restore 0 = 1
            restore 1 = 2
            """);
        bounds.sentence("Returns the number of entries;", """
            take 0 = 1
            58 note 1
            take 0 = 59
            note 1 = 59
            take 1 = 60
            goBack 0 = 0
            take 0 = 60
            """);
        bounds.sentence("INVALID_ARGUMENT if slot is out of range.", """
            take MIN = INVALID
            take MAX = INVALID
            take NONE = INVALID
            take 65536 = INVALID
            take 3 = INVALID
            count 12 = 0
            take 0 = 1
            take 1 = 1
            take 2 = INVALID
            take -1 = INVALID
            """);
        bounds.complete();
    }

    private static void restore(Bounds bounds) {
        bounds.section("Promise 14");
        bounds.sentence("Restores a snapshot, which stays.", """
            take 0 = 1
            note 1 = 1
            restore 0 = 1
            count 0 = 1
            count 12 = 1
            59 note 2
            restore 0 = 1
            note 3 = 1
            restore 0 = 1
            entry 1 0 = INVALID
            """);
        bounds.sentence("This is an action.", """
            take 0 = 1
            restore 0 = 1
            count 13 = 2
            restore 1 = ILLEGAL
            restore 2 = INVALID
            count 13 = 2
            note 1 = 1
            restore 0 = 1
            undo = 3
            count 0 = 2
            entry 1 3 = 1
            """);
        bounds.sentence("`slot`: 0 or 1", """
            take 0 = 1
            note 1 = 1
            take 1 = 2
            restore -1 = INVALID
            restore 0 = 1
            restore 1 = 2
            restore 2 = INVALID
            """);
        bounds.sentence("Returns the number of entries then;", """
            take 0 = 1
            59 note 1
            take 1 = 60
            restore 0 = 1
            restore 1 = 60
            restore 1 = 60
            """);
        bounds.sentence("INVALID_ARGUMENT if slot is out of range;", """
            restore MIN = INVALID
            restore MAX = INVALID
            restore NONE = INVALID
            restore 65536 = INVALID
            restore -1 = INVALID
            restore 2 = INVALID
            take 0 = 1
            take 1 = 1
            restore -1 = INVALID
            restore 2 = INVALID
            restore 3 = INVALID
            """);
        bounds.sentence("ILLEGAL_STATE if the slot is empty.", """
            restore 0 = ILLEGAL
            restore 1 = ILLEGAL
            take 1 = 1
            restore 0 = ILLEGAL
            restore 1 = 1
            undo = 1
            undo = 0
            restore 1 = ILLEGAL
            # a snapshot is one, though it was taken of a new object
            take 0 = 1
            restore 0 = 1
            restore 1 = ILLEGAL
            """);
        bounds.complete();
    }

    private static void undo(Bounds bounds) {
        bounds.section("Promise 15");
        bounds.sentence("Removes the latest state from the history and restores it.", """
            note 1 = 1
            note 2 = 2
            undo = 1
            count 0 = 2
            count 13 = 1
            undo = 0
            count 0 = 1
            count 13 = 0
            # of a full history
            7 note 1
            count 13 = 5
            undo = 4
            count 0 = 7
            note 9 = 7
            count 13 = 5
            undo = 4
            undo = 3
            undo = 2
            undo = 1
            undo = 0
            count 0 = 3
            """);
        bounds.sentence("Returns the number of states that are left in the history;", """
            note 1 = 1
            undo = 0
            5 note 1
            undo = 4
            note 1 = 5
            note 1 = 6
            undo = 4
            undo = 3
            undo = 2
            undo = 1
            undo = 0
            """);
        bounds.sentence("ILLEGAL_STATE if it is empty.", """
            undo = ILLEGAL
            undo = ILLEGAL
            append 48 = 1
            undo = ILLEGAL
            note 1 = 1
            undo = 0
            undo = ILLEGAL
            count 0 = 1
            6 note 1
            5 undo
            undo = ILLEGAL
            count 0 = 2
            """);
        bounds.complete();
    }
}
