/** Boundary cases of promises 10 to 12: forge, relink, seal. */
final class ForgingBounds {
    private ForgingBounds() {
    }

    static void all(Bounds bounds) {
        forge(bounds);
        forgeErrors(bounds);
        relink(bounds);
        seal(bounds);
    }

    private static void forge(Bounds bounds) {
        bounds.section("Promise 10");
        bounds.sentence("Writes another amount over that of an entry, whose link stays (so do all other links).", """
            deposit 1 100 = 1
            note 1 = 2
            entry 1 5 = 1770
            entry 2 5 = 5088
            forge 1 999 = 100
            entry 1 3 = 999
            entry 1 5 = 1770
            entry 1 6 = 0
            entry 2 3 = 1
            entry 2 5 = 5088
            entry 2 6 = 1
            count 9 = 1
            forge 1 100 = 999
            entry 1 6 = 1
            # the last of 60 entries
            new
            59 note 1
            forge 59 2 = 1
            count 9 = 1
            count 10 = 59
            """);
        bounds.sentence("This is an action.", """
            note 1 = 1
            forge 1 1 = 1
            count 13 = 2
            forge 1 1000 = INVALID
            forge 0 1 = INVALID
            count 13 = 2
            undo = 1
            forge 1 2 = 1
            undo = 1
            entry 1 3 = 1
            """);
        bounds.sentence("`entry`: an entry, not 0", """
            forge 0 0 = INVALID
            forge 0 1 = INVALID
            forge -1 1 = INVALID
            forge 1 1 = INVALID
            deposit 1 5 = 1
            forge 0 1 = INVALID
            forge 1 1 = 5
            forge 2 1 = INVALID
            58 note 1
            forge 59 1 = 1
            forge 60 1 = INVALID
            """);
        bounds.sentence("`amount`: 0 to 999 for a note, 1 to 999 for another one", """
            deposit 1 10 = 1
            pay 1 2 5 = 2
            fee 1 5 = 3
            note 5 = 4
            forge 4 -1 = INVALID
            forge 4 0 = 5
            forge 4 999 = 0
            forge 4 1000 = INVALID
            forge 1 0 = INVALID
            forge 2 0 = INVALID
            forge 3 0 = INVALID
            forge 2 1 = 5
            forge 3 1 = 5
            forge 1 2 = 10
            forge 1 999 = 2
            forge 1 1000 = INVALID
            forge 2 998 = 1
            forge 2 1000 = INVALID
            forge 2 1 = 998
            forge 3 998 = 1
            forge 3 1000 = INVALID
            # 1 and 999 of each, where there is enough
            new
            deposit 1 999 = 1
            deposit 1 999 = 2
            deposit 1 999 = 3
            pay 1 2 5 = 4
            fee 1 5 = 5
            forge 4 999 = 5
            forge 5 999 = 5
            forge 4 1 = 999
            forge 5 1 = 999
            forge 3 1 = 999
            """);
        bounds.sentence("Returns the amount that it had;", """
            deposit 1 999 = 1
            note 0 = 2
            forge 1 1 = 999
            forge 1 1 = 1
            forge 2 999 = 0
            forge 2 0 = 999
            forge 1 7 = 1
            """);
    }

    private static void forgeErrors(Bounds bounds) {
        bounds.sentence("INVALID_ARGUMENT if an argument is out of range, or there is no such entry;", """
            note 1 = 1
            forge MIN 1 = INVALID
            forge MAX 1 = INVALID
            forge NONE 1 = INVALID
            forge 65537 1 = INVALID
            forge 1 MIN = INVALID
            forge 1 MAX = INVALID
            forge 1 65537 = INVALID
            forge 2 1 = INVALID
            undo = 0
            forge 1 1 = INVALID
            # where a balance would be less than 0, too
            deposit 1 5 = 1
            fee 1 5 = 2
            forge 1 0 = INVALID
            forge 2 1000 = INVALID
            """);
        bounds.sentence("ILLEGAL_STATE if a balance at any entry would be less than 0.", """
            # at the entry itself
            deposit 1 5 = 1
            fee 1 3 = 2
            forge 2 6 = ILLEGAL
            forge 2 5 = 3
            balance 1 2 = 0
            # at an entry below
            forge 1 4 = ILLEGAL
            forge 1 5 = 5
            # at one alone, though there is more at the head
            deposit 1 900 = 3
            forge 1 4 = ILLEGAL
            forge 2 6 = ILLEGAL
            forge 3 1 = 900
            # at one that is not on the chain
            new
            deposit 1 5 = 1
            fee 1 5 = 2
            goBack 1 = 0
            forge 1 4 = ILLEGAL
            dismiss 0 = 3
            forge 1 4 = ILLEGAL
            forge 1 6 = 5
            forge 2 6 = 5
            forge 2 7 = ILLEGAL
            # but not at one that is not below
            new
            deposit 1 5 = 1
            goBack 0 = 0
            deposit 1 9 = 2
            fee 1 9 = 3
            forge 1 1 = 5
            forge 2 8 = ILLEGAL
            # both accounts of a payment
            new
            deposit 1 10 = 1
            pay 1 2 6 = 2
            fee 2 5 = 3
            fee 1 3 = 4
            forge 2 4 = ILLEGAL
            forge 2 5 = 6
            forge 2 8 = ILLEGAL
            forge 2 7 = 5
            balance 1 4 = 0
            balance 2 4 = 2
            # the 59th entry below
            new
            deposit 1 5 = 1
            57 note 1
            fee 1 5 = 59
            forge 1 4 = ILLEGAL
            forge 59 4 = 5
            forge 1 4 = 5
            # no code makes a balance less
            forge 2 999 = 1
            forge 2 0 = 999
            """);
        bounds.complete();
    }

    private static void relink(Bounds bounds) {
        bounds.section("Promise 11");
        bounds.sentence("Makes the link of an entry, and those of all entries below it, fit again, as the links above are.", """
            deposit 1 2 = 1
            deposit 1 3 = 2
            note 4 = 3
            forge 2 9 = 3
            relink 3 = 0
            relink 2 = 2
            entry 2 5 = 3435
            entry 3 5 = 6908
            entry 1 5 = 104
            count 9 = 0
            # those above stay, whether they fit or not
            forge 1 9 = 2
            relink 2 = 0
            relink 3 = 0
            entry 1 6 = 0
            entry 1 5 = 104
            relink 0 = 3
            entry 1 5 = 223
            count 9 = 0
            # an entry with none below, and the 58 below the first
            new
            59 note 1
            forge 59 2 = 1
            relink 58 = 1
            forge 1 2 = 1
            relink 1 = 59
            count 9 = 0
            # branches are below, and others are not
            new
            note 1 = 1
            note 2 = 2
            goBack 1 = 0
            note 3 = 3
            goBack 0 = 1
            note 4 = 4
            forge 1 5 = 1
            forge 4 5 = 4
            relink 1 = 3
            entry 2 6 = 1
            entry 3 6 = 1
            entry 4 6 = 0
            """);
        bounds.sentence("This is an action.", """
            relink 0 = 0
            count 13 = 1
            relink 1 = INVALID
            count 13 = 1
            note 1 = 1
            forge 1 2 = 1
            relink 1 = 1
            count 13 = 4
            undo = 3
            entry 1 6 = 0
            """);
        bounds.sentence("`entry`: an entry", """
            relink -1 = INVALID
            relink 1 = INVALID
            relink 0 = 0
            59 note 1
            relink 60 = INVALID
            relink 59 = 0
            """);
        bounds.sentence("Returns the number of links that become other ones;", """
            relink 0 = 0
            note 1 = 1
            relink 0 = 0
            relink 1 = 0
            forge 1 2 = 1
            relink 0 = 1
            relink 0 = 0
            # a link that fits becomes another one behind one that does not fit
            note 3 = 2
            forge 1 1 = 2
            count 9 = 1
            relink 1 = 2
            # one that does not fit becomes the one that it was, and those behind it stay
            forge 1 2 = 1
            forge 1 1 = 2
            relink 1 = 0
            new
            59 note 1
            forge 1 2 = 1
            relink 0 = 59
            """);
        bounds.sentence("INVALID_ARGUMENT if there is no such entry.", """
            relink MIN = INVALID
            relink MAX = INVALID
            relink NONE = INVALID
            relink 65536 = INVALID
            note 1 = 1
            forge 1 2 = 1
            relink 2 = INVALID
            count 9 = 1
            undo = 1
            undo = 0
            relink 1 = INVALID
            """);
        bounds.complete();
    }

    private static void seal(Bounds bounds) {
        bounds.section("Promise 12");
        bounds.sentence("Seals the head.", """
            seal = 0
            sealed 0 0 = 0
            sealed 0 1 = 1
            59 note 1
            seal = 1
            sealed 1 0 = 59
            goBack 1 = 0
            seal = 2
            sealed 2 0 = 1
            sealed 2 1 = 95
            # one entry more than once
            seal = 3
            sealed 3 0 = 1
            count 7 = 4
            """);
        bounds.sentence("This is an action.", """
            seal = 0
            count 13 = 1
            undo = 0
            count 7 = 0
            8 seal
            seal = FULL
            count 13 = 5
            undo = 4
            count 7 = 7
            """);
        bounds.sentence("Returns the number of the seal;", """
            seal = 0
            seal = 1
            undo = 1
            seal = 1
            5 seal
            seal = 7
            """);
        bounds.sentence("CAPACITY_EXCEEDED if there are 8.", """
            7 seal
            seal = 7
            seal = FULL
            count 7 = 8
            59 note 1
            seal = FULL
            sealed 7 0 = 0
            undo = 4
            seal = FULL
            new
            8 seal
            undo = 4
            seal = 7
            seal = FULL
            """);
        bounds.complete();
    }
}
