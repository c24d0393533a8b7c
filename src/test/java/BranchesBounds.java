/** Boundary cases of promises 6 to 9: goBack, setPatience, adopt, dismiss. */
final class BranchesBounds {
    private BranchesBounds() {
    }

    static void all(Bounds bounds) {
        goBack(bounds);
        setPatience(bounds);
        adopt(bounds);
        adoptErrors(bounds);
        dismiss(bounds);
    }

    private static void goBack(Bounds bounds) {
        bounds.section("Promise 6");
        bounds.sentence("Goes back to an entry.", """
            59 note 1
            goBack 58 = 0
            count 1 = 58
            count 2 = 59
            goBack 0 = 1
            count 1 = 0
            count 2 = 1
            count 0 = 60
            """);
        bounds.sentence("This is an action.", """
            goBack 0 = 0
            count 13 = 1
            note 1 = 1
            goBack 0 = 0
            count 13 = 3
            goBack 1 = ILLEGAL
            goBack 2 = INVALID
            count 13 = 3
            undo = 2
            count 1 = 1
            count 3 = 0
            undo = 1
            undo = 0
            """);
        bounds.sentence("`entry`: an entry", """
            goBack -1 = INVALID
            goBack 1 = INVALID
            goBack 0 = 0
            59 note 1
            goBack 60 = INVALID
            goBack 59 = 0
            goBack 0 = 0
            """);
        bounds.sentence("Returns the number of the orphan branch that comes into being", """
            note 1 = 1
            goBack 0 = 0
            note 2 = 2
            goBack 0 = 1
            new
            """ + ChainBounds.branches(9, 0) + """
            note 1 = 10
            goBack 0 = 9
            """);
        bounds.sentence("or the number of branches so far if there comes none;", """
            goBack 0 = 0
            note 1 = 1
            goBack 1 = 0
            goBack 0 = 0
            goBack 0 = 1
            count 3 = 1
            new
            """ + ChainBounds.branches(10, 0) + """
            goBack 0 = 10
            note 1 = 11
            goBack 11 = 10
            count 3 = 10
            """);
        bounds.sentence("INVALID_ARGUMENT if there is no such entry;", """
            goBack MIN = INVALID
            goBack MAX = INVALID
            goBack NONE = INVALID
            goBack 65536 = INVALID
            note 1 = 1
            goBack 2 = INVALID
            undo = 0
            goBack 1 = INVALID
            """);
        bounds.sentence("ILLEGAL_STATE if it is not on the chain;", """
            note 1 = 1
            note 2 = 2
            goBack 1 = 0
            goBack 2 = ILLEGAL
            note 3 = 3
            goBack 2 = ILLEGAL
            goBack 0 = 1
            goBack 1 = ILLEGAL
            goBack 3 = ILLEGAL
            # what is written anew is another entry
            adopt 0 0 = 1
            goBack 2 = ILLEGAL
            goBack 4 = 2
            """);
        bounds.sentence("CAPACITY_EXCEEDED if an 11th branch would come into being.", ChainBounds.branches(10, 0) + """
            note 1 = 11
            note 1 = 12
            goBack 0 = FULL
            goBack 11 = FULL
            goBack 12 = 10
            count 1 = 12
            # also if all of them are adopted or dismissed
            dismiss 0 = 13
            dismiss 1 = 14
            adopt 2 0 = 1
            goBack 14 = FULL
            goBack 15 = 10
            # undo() makes room
            new
            """ + ChainBounds.branches(10, 0) + """
            undo = 4
            count 3 = 9
            goBack 0 = 9
            note 1 = 11
            goBack 0 = FULL
            """);
        bounds.complete();
    }

    private static void setPatience(Bounds bounds) {
        bounds.section("Promise 7");
        bounds.sentence("Sets the patience.", """
            count 6 = 3
            setPatience 1 = 3
            count 6 = 1
            setPatience 30 = 1
            count 6 = 30
            """);
        bounds.sentence("This is an action.", """
            setPatience 3 = 3
            count 13 = 1
            setPatience 0 = INVALID
            count 13 = 1
            setPatience 4 = 3
            count 13 = 2
            undo = 1
            count 6 = 3
            """);
        bounds.sentence("`patience`: 1 to 30", """
            setPatience -1 = INVALID
            setPatience 0 = INVALID
            setPatience 1 = 3
            setPatience 30 = 1
            setPatience 31 = INVALID
            count 6 = 30
            """);
        bounds.sentence("Returns the previous patience;", """
            setPatience 30 = 3
            setPatience 30 = 30
            setPatience 1 = 30
            setPatience 2 = 1
            undo = 3
            setPatience 5 = 1
            """);
        bounds.sentence("INVALID_ARGUMENT if patience is out of range.", """
            setPatience MIN = INVALID
            setPatience MAX = INVALID
            setPatience NONE = INVALID
            setPatience 65537 = INVALID
            count 6 = 3
            59 note 1
            setPatience 0 = INVALID
            setPatience 31 = INVALID
            setPatience 1 = 3
            """);
        bounds.complete();
    }

    private static void adopt(Bounds bounds) {
        bounds.section("Promise 8");
        bounds.sentence("Adopts a branch.", """
            note 1 = 1
            goBack 0 = 0
            adopt 0 0 = 1
            branch 0 4 = 2
            entry 2 8 = 1
            count 1 = 2
            # a loud one
            new
            """ + ChainBounds.LOUD + """
            branch 0 4 = 1
            adopt 0 0 = 1
            branch 0 4 = 2
            entry 3 8 = 1
            """);
        bounds.sentence("This is an action.", """
            deposit 1 5 = 1
            fee 1 5 = 2
            goBack 1 = 0
            goBack 0 = 1
            count 13 = 4
            adopt 0 0 = ILLEGAL
            count 13 = 4
            adopt 0 1 = 0
            count 13 = 5
            undo = 4
            branch 0 4 = 0
            adopt 1 0 = 1
            undo = 4
            count 0 = 3
            """);
        bounds.sentence("`branch`: a branch", """
            adopt 0 0 = INVALID
            note 1 = 1
            goBack 0 = 0
            adopt -1 0 = INVALID
            adopt 1 0 = INVALID
            adopt 0 0 = 1
            new
            """ + ChainBounds.branches(10, 0) + """
            adopt 10 0 = INVALID
            adopt 9 0 = 1
            adopt 0 0 = 1
            """);
        bounds.sentence("`how`: 0 if no entry of it may fail", """
            # the last one fails, and the last one does not
            deposit 1 5 = 1
            fee 1 2 = 2
            fee 1 3 = 3
            goBack 1 = 0
            fee 1 1 = 4
            adopt 0 0 = ILLEGAL
            count 0 = 5
            deposit 1 1 = 5
            adopt 0 0 = 2
            balance 1 7 = 0
            """);
        bounds.sentence("1 if those that fail are left out, and the next ones are tried all the same", """
            # the first, the middle one and the last fail
            deposit 1 50 = 1
            fee 1 10 = 2
            fee 1 5 = 3
            fee 1 9 = 4
            fee 1 1 = 5
            fee 1 2 = 6
            goBack 1 = 0
            fee 1 44 = 7
            adopt 0 1 = 2
            entry 8 8 = 3
            entry 9 8 = 5
            balance 1 9 = 0
            # a next one that lives on what is left out fails, too
            new
            deposit 1 5 = 1
            pay 1 2 5 = 2
            fee 2 5 = 3
            note 7 = 4
            goBack 1 = 0
            fee 1 1 = 5
            adopt 0 1 = 1
            entry 6 8 = 4
            """);
        bounds.sentence("Returns the number of entries that are written;", """
            deposit 1 5 = 1
            fee 1 5 = 2
            goBack 1 = 0
            fee 1 5 = 3
            adopt 0 1 = 0
            count 0 = 4
            count 1 = 3
            goBack 0 = 1
            adopt 1 0 = 2
            count 0 = 6
            new
            30 note 1
            goBack 1 = 0
            adopt 0 0 = 29
            count 0 = 60
            """);
    }

    private static void adoptErrors(Bounds bounds) {
        bounds.sentence("INVALID_ARGUMENT if there is no such branch or how is out of range;", """
            note 1 = 1
            goBack 0 = 0
            adopt MIN 0 = INVALID
            adopt MAX 0 = INVALID
            adopt NONE 0 = INVALID
            adopt 65536 0 = INVALID
            adopt 0 -1 = INVALID
            adopt 0 2 = INVALID
            adopt 0 MIN = INVALID
            adopt 0 MAX = INVALID
            adopt 0 65536 = INVALID
            undo = 1
            adopt 0 0 = INVALID
            """);
        bounds.sentence("ILLEGAL_STATE if it is not waiting", """
            note 1 = 1
            goBack 0 = 0
            note 2 = 2
            goBack 0 = 1
            adopt 0 0 = 1
            adopt 0 0 = ILLEGAL
            adopt 0 1 = ILLEGAL
            dismiss 1 = 4
            adopt 1 0 = ILLEGAL
            adopt 1 1 = ILLEGAL
            undo = 4
            adopt 1 1 = 1
            # a loud one is waiting
            new
            """ + ChainBounds.LOUD + """
            count 5 = 1
            adopt 0 1 = 1
            """);
        bounds.sentence("or an entry of it would fail with 0 for how;", """
            deposit 1 5 = 1
            deposit 2 5 = 2
            pay 1 2 5 = 3
            note 1 = 4
            goBack 2 = 0
            fee 1 1 = 5
            adopt 0 0 = ILLEGAL
            branch 0 4 = 0
            forge 5 1 = 1
            forge 3 4 = 5
            adopt 0 0 = 2
            balance 1 7 = 0
            """);
        bounds.sentence("CAPACITY_EXCEEDED if there would be more than 60 entries (those that are left out do not count).", """
            # 30 entries behind 31: 61; and 29 behind 31: 60
            31 note 1
            goBack 1 = 0
            adopt 0 0 = FULL
            adopt 0 1 = FULL
            undo = 4
            undo = 3
            goBack 1 = 0
            adopt 0 0 = 29
            count 0 = 60
            # none is written at 60 entries
            new
            deposit 1 5
            54 note 1
            fee 1 5 = 56
            goBack 55 = 0
            fee 1 5 = 57
            2 note 1
            count 0 = 60
            adopt 0 0 = ILLEGAL
            adopt 0 1 = 0
            count 0 = 60
            # two fees at 59 entries, of which the first is left out
            new
            deposit 1 15
            54 note 1
            fee 1 10
            fee 1 5
            goBack 55 = 0
            fee 1 10 = 58
            count 0 = 59
            adopt 0 0 = ILLEGAL
            adopt 0 1 = 1
            count 0 = 60
            entry 59 8 = 57
            # two fees at 59 entries, of which none is
            new
            deposit 1 15
            54 note 1
            fee 1 10
            fee 1 5
            goBack 55 = 0
            note 1 = 58
            adopt 0 0 = FULL
            adopt 0 1 = FULL
            branch 0 4 = 0
            count 0 = 59
            """);
        bounds.complete();
    }

    private static void dismiss(Bounds bounds) {
        bounds.section("Promise 9");
        bounds.sentence("Dismisses a branch.", """
            note 1 = 1
            goBack 0 = 0
            dismiss 0 = 2
            branch 0 4 = 3
            entry 2 0 = 4
            entry 2 1 = 0
            entry 2 2 = 0
            entry 2 3 = 1
            entry 2 8 = NONE
            # a loud one
            new
            """ + ChainBounds.LOUD + """
            branch 0 4 = 1
            dismiss 0 = 3
            branch 0 4 = 3
            """);
        bounds.sentence("This is an action.", """
            note 1 = 1
            goBack 0 = 0
            dismiss 0 = 2
            count 13 = 3
            dismiss 0 = ILLEGAL
            dismiss 1 = INVALID
            count 13 = 3
            undo = 2
            branch 0 4 = 0
            count 0 = 2
            """);
        bounds.sentence("`branch`: a branch", """
            dismiss 0 = INVALID
            note 1 = 1
            goBack 0 = 0
            dismiss -1 = INVALID
            dismiss 1 = INVALID
            dismiss 0 = 2
            new
            """ + ChainBounds.branches(10, 0) + """
            dismiss 10 = INVALID
            dismiss 9 = 11
            entry 11 3 = 10
            dismiss 0 = 12
            entry 12 3 = 1
            """);
        bounds.sentence("Returns the number of the note that is written;", """
            note 1 = 1
            goBack 0 = 0
            dismiss 0 = 2
            count 1 = 2
            new
            58 note 1
            goBack 57 = 0
            dismiss 0 = 59
            count 1 = 59
            """);
        bounds.sentence("INVALID_ARGUMENT if there is no such branch;", """
            note 1 = 1
            goBack 0 = 0
            dismiss MIN = INVALID
            dismiss MAX = INVALID
            dismiss NONE = INVALID
            dismiss 65536 = INVALID
            undo = 1
            dismiss 0 = INVALID
            58 note 1
            dismiss 0 = INVALID
            """);
        bounds.sentence("ILLEGAL_STATE if it is not waiting;", """
            note 1 = 1
            goBack 0 = 0
            dismiss 0 = 2
            dismiss 0 = ILLEGAL
            goBack 0 = 1
            adopt 1 0 = 1
            dismiss 1 = ILLEGAL
            56 note 1
            dismiss 0 = ILLEGAL
            dismiss 1 = ILLEGAL
            """);
        bounds.sentence("CAPACITY_EXCEEDED if there are 60 entries.", """
            58 note 1
            goBack 57 = 0
            goBack 56 = 1
            dismiss 1 = 59
            dismiss 0 = FULL
            branch 0 4 = 0
            count 4 = 1
            undo = 4
            dismiss 0 = 59
            """);
        bounds.complete();
    }
}
