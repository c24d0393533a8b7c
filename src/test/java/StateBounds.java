/** Boundary cases of "Terms": Text, Snapshots, Undo, Errors; and how often an object is called. */
final class StateBounds {
    private StateBounds() {
    }

    static void all(Bounds bounds) {
        calls(bounds);
        text(bounds);
        snapshots(bounds);
        undo(bounds);
        errors(bounds);
        errorOrders(bounds);
        constants(bounds);
    }

    private static void calls(Bounds bounds) {
        bounds.section("What it is");
        bounds.sentence("An object is used for at most 512 calls after it has been made;", """
            # the last five of 512 calls
            59 deposit 1 999
            448 count 0
            undo = 4
            balance 1 58 = 57942
            deposit 2 7 = 59
            balance 2 59 = 7
            deposit 1 1 = FULL
            """);
        bounds.sentence("what later calls answer is free.", due -> {
            OrphanChain chain = new OrphanChain();
            for (int call = 0; call < 2000; call++) {
                chain.setPatience(call % 32);
                chain.note(call % 1001);
                chain.goBack(call % 61);
                chain.append(call % 257);
                chain.take(call % 3);
                chain.undo();
                chain.seal();
                chain.adopt(call % 11, call % 3);
            }
            due.holds("they end, and throw nothing", true);
        });
    }

    private static void text(Bounds bounds) {
        bounds.section("Text");
        bounds.sentence("There is a text of at most 100 characters", """
            99 append 49
            count 14 = 99
            append 255 = 100
            append 49 = FULL
            count 14 = 100
            clearText = 100
            append 49 = 1
            """);
        bounds.sentence("empty at first.", """
            count 14 = 0
            check = -1000
            clearText = 0
            append 48 = 1
            """);
        bounds.sentence("A proof is a text: a number, \":\", and one or more numbers with \",\" between two.", """
            check "0" = -1001
            check "0:" = -1002
            check "0:1" = 1
            check "0:1," = -1004
            check "0:1,1" = -2
            check ":1" = -1000
            check ",1" = -1000
            check "0,1" = -1001
            check "0::1" = -1002
            check "0:,1" = -1002
            check "0:1:1" = -1003
            check "0:1,,1" = -1004
            check "0:1,:1" = -1004
            check "0 :1" = -1001
            # as many numbers as there is room for: 49 links
            new
            check "0:1,1,1,1,1,1,1,1,1,1,1,1,1,1,1,1,1,1,1,1,1,1,1,1,1,1,1,1,1,1,1,1,1,1,1,1,1,1,1,1,1,1,1,1,1,1,1,1,1" = -2
            append 44 = 100
            check = -1100
            """);
        bounds.sentence("A number is one to four digits, the first of several not 0.", """
            # the digits 0 and 9, and the signs ahead of and behind them
            check "0:0" = -1
            check "9:9" = INVALID
            check "/:1" = -1000
            check "0:/" = -1002
            check "0:;" = -1002
            check "0:1;" = -1003
            # four digits, and five
            check "9999:1" = INVALID
            check "1000:1" = INVALID
            check "99999:1" = -1004
            check "10000:1" = -1004
            check "0:9999" = -1
            check "0:1000" = -1
            check "0:99999" = -1006
            check "0:10000" = -1006
            check "0:1,9999" = -2
            check "0:1,99999" = -1008
            # the first of several
            check "00:1" = -1001
            check "01:1" = -1001
            check "0000:1" = -1001
            check "0:00" = -1003
            check "0:01" = -1003
            check "0:1,0" = -2
            check "0:1,00" = -1005
            check "0:1,09" = -1005
            """);
        bounds.sentence("The fault of the text is the index, from 0, of the first character that is not allowed at its place", """
            check "x" = -1000
            check "x0:1" = -1000
            check "0x1" = -1001
            check "0:x" = -1002
            check "0:1x" = -1003
            check "0:1,x" = -1004
            check "0:1x2x" = -1003
            append 1 = 7
            check = -1003
            # at the last index, 99
            new
            append "0:1,1,1,1,1,1,1,1,1,1,1,1,1,1,1,1,1,1,1,1,1,1,1,1,1,1,1,1,1,1,1,1,1,1,1,1,1,1,1,1,1,1,1,1,1,1,1,1,1"
            append 58 = 100
            check = -1099
            # the least and the greatest sign, at each end
            new
            append 1 = 1
            check = -1000
            clearText = 1
            append "0:1"
            append 255 = 4
            check = -1003
            """);
        bounds.sentence("or the length of the text if it ends too early (as the empty text does).", """
            check = -1000
            check "0" = -1001
            check "9999" = -1004
            check "0:" = -1002
            check "0:1," = -1004
            check "9999:9999," = -1010
            # a text of 100 signs
            new
            append "0:1,1,1,1,1,1,1,1,1,1,1,1,1,1,1,1,1,1,1,1,1,1,1,1,1,1,1,1,1,1,1,1,1,1,1,1,1,1,1,1,1,1,1,1,1,1,1,1,1"
            append 44 = 100
            check = -1100
            """);
        bounds.sentence("The first number is that of an entry, the others are to be the links of the entries of the chain from this one on.", """
            # the links 1, 104, 3333 and 3746
            deposit 1 2 = 1
            deposit 1 3 = 2
            note 4 = 3
            check "0:1,104,3333,3746" = 4
            check "0:1" = 1
            check "3:3746" = 1
            check "2:3333,3746" = 2
            check "3:3746,0" = -2
            check "4:1" = INVALID
            check "0:104" = -1
            check "1:1" = -1
            # the chain ends at 1, and the entries 2 and 3 are none of it
            goBack 1 = 0
            check "0:1,104" = 2
            check "0:1,104,3333" = -3
            check "2:3333" = INVALID
            """);
        bounds.complete();
    }

    private static void snapshots(Bounds bounds) {
        bounds.section("Snapshots");
        bounds.sentence("There are two slots for snapshots, empty at first.", """
            count 12 = 0
            restore 0 = ILLEGAL
            restore 1 = ILLEGAL
            take 0 = 1
            count 12 = 1
            restore 1 = ILLEGAL
            take 1 = 1
            count 12 = 2
            take 2 = INVALID
            take -1 = INVALID
            restore 2 = INVALID
            restore -1 = INVALID
            count 12 = 2
            """);
        bounds.sentence("A snapshot keeps everything but the text, the slots and the history.", """
            # the text
            append "0:1"
            take 0 = 1
            clearText = 3
            append 57 = 1
            restore 0 = 1
            count 14 = 1
            check = -1001
            # the slots: one that was empty then, and one that was not
            new
            note 1 = 1
            take 0 = 2
            note 2 = 2
            take 1 = 3
            restore 0 = 2
            count 12 = 2
            restore 1 = 3
            # the history
            new
            note 1 = 1
            take 0 = 2
            3 note 2
            count 13 = 5
            restore 0 = 2
            count 13 = 5
            undo = 4
            count 0 = 5
            new
            take 0 = 1
            undo = 0
            count 12 = 0
            restore 0 = ILLEGAL
            """);
        bounds.sentence("To restore it makes all this as it was.", """
            # of a new object
            take 1 = 1
            deposit 1 5 = 1
            seal = 0
            goBack 0 = 0
            setPatience 9 = 3
            restore 1 = 1
            count 0 = 1
            count 1 = 0
            count 3 = 0
            count 6 = 3
            count 7 = 0
            entry 1 0 = INVALID
            branch 0 0 = INVALID
            sealed 0 0 = INVALID
            note 6 = 1
            entry 1 3 = 6
            entry 1 6 = 1
            # entries, amounts, links, origins, the head, branches, their pleas and states, the patience, seals
            new
            deposit 1 100 = 1
            fee 1 10 = 2
            seal = 0
            goBack 1 = 0
            adopt 0 0 = 1
            forge 1 90 = 100
            goBack 1 = 1
            setPatience 5 = 3
            note 7 = 4
            take 0 = 5
            relink 0 = 4
            forge 2 5 = 10
            note 8 = 5
            dismiss 1 = 6
            seal = 1
            goBack 0 = 2
            setPatience 30 = 5
            restore 0 = 5
            count 0 = 5
            count 1 = 4
            count 2 = 3
            count 3 = 2
            count 4 = 1
            count 6 = 5
            count 7 = 1
            count 8 = 0
            count 9 = 1
            count 10 = 1
            entry 1 3 = 90
            entry 1 5 = 1770
            entry 2 3 = 10
            entry 3 8 = 2
            branch 0 4 = 2
            branch 1 4 = 0
            branch 1 3 = 1
            # of a full chain, and of one that is full no more
            new
            58 note 1
            take 0 = 59
            note 1 = 59
            take 1 = 60
            restore 0 = 59
            note 2 = 59
            note 2 = FULL
            restore 1 = 60
            note 2 = FULL
            entry 59 3 = 1
            """);
        bounds.complete();
    }

    private static void undo(Bounds bounds) {
        bounds.section("Undo");
        bounds.sentence("A history of at most 5 states is kept;", """
            count 13 = 0
            undo = ILLEGAL
            note 1 = 1
            count 13 = 1
            note 1 = 2
            note 1 = 3
            note 1 = 4
            count 13 = 4
            note 1 = 5
            count 13 = 5
            note 1 = 6
            count 13 = 5
            undo = 4
            undo = 3
            undo = 2
            undo = 1
            undo = 0
            count 0 = 2
            undo = ILLEGAL
            """);
        bounds.sentence("a state is everything but the text and the history (the slots belong to it).", """
            # the text
            note 1 = 1
            append "0:1"
            undo = 0
            count 14 = 3
            check = 1
            # the history
            new
            note 1 = 1
            note 2 = 2
            undo = 1
            count 13 = 1
            undo = 0
            count 13 = 0
            # the slots: an empty one, and one that is there
            new
            take 0 = 1
            count 12 = 1
            undo = 0
            count 12 = 0
            restore 0 = ILLEGAL
            take 1 = 1
            note 1 = 1
            take 1 = 2
            undo = 2
            restore 1 = 1
            count 0 = 1
            """);
        bounds.sentence("Every successful call of a method that is called an action records the state before it (also if nothing changes by it);", """
            # nothing changes
            goBack 0 = 0
            count 13 = 1
            setPatience 3 = 3
            count 13 = 2
            relink 0 = 0
            count 13 = 3
            take 0 = 1
            take 0 = 1
            count 13 = 5
            new
            take 0 = 1
            restore 0 = 1
            count 13 = 2
            restore 0 = 1
            count 13 = 3
            undo = 2
            undo = 1
            count 12 = 1
            undo = 0
            count 12 = 0
            new
            note 5 = 1
            forge 1 5 = 5
            count 13 = 2
            # a call that is not successful, and methods that are no actions, record nothing
            note 1000 = INVALID
            restore 0 = ILLEGAL
            goBack 9 = INVALID
            forge 0 1 = INVALID
            append 48 = 1
            append 0 = INVALID
            check = -1001
            clearText = 1
            count 13 = 2
            undo = 1
            undo = 0
            # all thirteen
            new
            deposit 1 9 = 1
            count 13 = 1
            pay 1 2 2 = 2
            count 13 = 2
            fee 1 2 = 3
            count 13 = 3
            note 2 = 4
            count 13 = 4
            undo = 3
            goBack 2 = 0
            count 13 = 4
            undo = 3
            undo = 2
            setPatience 4 = 3
            count 13 = 3
            goBack 1 = 0
            goBack 0 = 1
            undo = 4
            undo = 3
            undo = 2
            undo = 1
            goBack 0 = 0
            adopt 0 0 = 1
            count 13 = 3
            undo = 2
            dismiss 0 = 2
            count 13 = 3
            undo = 2
            forge 1 3 = 9
            count 13 = 3
            relink 1 = 1
            count 13 = 4
            undo = 3
            seal = 0
            count 13 = 4
            undo = 3
            take 0 = 2
            count 13 = 4
            restore 0 = 2
            count 13 = 5
            """);
        bounds.sentence("when a sixth one is recorded, the oldest one is dropped.", """
            deposit 1 1 = 1
            deposit 1 2 = 2
            setPatience 7 = 3
            seal = 0
            take 1 = 3
            deposit 1 3 = 3
            # the state of the new object is dropped, and that behind the first deposit is the oldest
            undo = 4
            undo = 3
            undo = 2
            undo = 1
            undo = 0
            count 0 = 2
            balance 1 1 = 1
            undo = ILLEGAL
            # again and again: the room of the history is used anew
            new
            23 note 1
            undo = 4
            undo = 3
            note 2 = 22
            note 3 = 23
            note 4 = 24
            undo = 4
            entry 23 3 = 3
            undo = 3
            undo = 2
            entry 21 3 = 1
            undo = 1
            undo = 0
            count 0 = 20
            undo = ILLEGAL
            """);
        bounds.sentence("undo() removes the latest state from the history and restores it.", """
            undo = ILLEGAL
            note 1 = 1
            undo = 0
            count 0 = 1
            undo = ILLEGAL
            # it is no action itself
            note 1 = 1
            note 2 = 2
            undo = 1
            count 13 = 1
            entry 1 3 = 1
            count 0 = 2
            undo = 0
            count 0 = 1
            # a restored snapshot, and 60 entries
            58 note 1
            take 0 = 59
            note 2 = 59
            restore 0 = 59
            undo = 4
            count 0 = 60
            note 3 = FULL
            undo = 3
            count 0 = 59
            note 3 = 59
            """);
        bounds.complete();
    }

    private static void errors(Bounds bounds) {
        bounds.section("Errors");
        bounds.sentence("A call that returns an error code changes nothing.", """
            # a state with all that there can be, of which the script looks at everything
            deposit 1 100 = 1
            pay 1 2 40 = 2
            fee 2 30 = 3
            goBack 2 = 0
            note 5 = 4
            seal = 0
            goBack 1 = 1
            take 0 = 5
            forge 2 41 = 40
            note 8 = 5
            setPatience 1 = 3
            append "1:17"
            deposit 1 0 = INVALID
            deposit 1 1 = ILLEGAL
            pay 1 1 1 = INVALID
            pay 1 2 1 = ILLEGAL
            fee 0 1 = INVALID
            fee 1 1 = ILLEGAL
            note 1000 = INVALID
            note 1 = ILLEGAL
            goBack 6 = INVALID
            goBack 2 = ILLEGAL
            setPatience 0 = INVALID
            adopt 2 0 = INVALID
            adopt 0 2 = INVALID
            adopt 0 0 = ILLEGAL
            dismiss 2 = INVALID
            forge 0 1 = INVALID
            forge 2 0 = INVALID
            forge 2 101 = ILLEGAL
            forge 2 29 = ILLEGAL
            relink 6 = INVALID
            take 2 = INVALID
            restore 2 = INVALID
            restore 1 = ILLEGAL
            append 0 = INVALID
            append 256 = INVALID
            count 15 = INVALID
            entry 6 0 = INVALID
            balance 6 0 = INVALID
            onChain -1 = INVALID
            branch 2 0 = INVALID
            sealed 1 0 = INVALID
            common 0 6 = INVALID
            failing 0 2 = INVALID
            peak 0 2 = INVALID
            # where there is no room
            new
            48 note 1
            8 seal
            """ + ChainBounds.branches(10, 48) + """
            count 0 = 59
            note 1 = 59
            take 1 = 60
            deposit 1 1 = FULL
            note 1 = FULL
            goBack 0 = FULL
            seal = FULL
            dismiss 0 = FULL
            adopt 0 0 = FULL
            adopt 0 1 = FULL
            restore 0 = ILLEGAL
            new
            100 append 49
            append 49 = FULL
            undo = ILLEGAL
            """);
        bounds.sentence("NONE is no error, and it is returned only if no error condition applies.", """
            # it changes nothing, and is no value of an error
            entry 0 4 = NONE
            entry 0 8 = NONE
            entry 1 4 = INVALID
            entry 1 8 = INVALID
            entry 0 11 = INVALID
            count 10 = NONE
            count 15 = INVALID
            onChain 1 = NONE
            onChain -1 = INVALID
            onChain MIN = INVALID
            note 1 = 1
            goBack 0 = 0
            failing 0 0 = NONE
            failing 0 2 = INVALID
            failing 1 0 = INVALID
            new
            """ + ChainBounds.branches(6, 0) + """
            orders = NONE
            """);
    }

    private static void errorOrders(Bounds bounds) {
        bounds.sentence("If several error conditions apply, the method returns the one that its description lists first;", """
            # 60 entries and a loud branch: writing, where the first error is the argument, then the state
            58 deposit 1 10
            goBack 57 = 0
            setPatience 1 = 3
            deposit 1 10 = 59
            deposit 1 0 = INVALID
            deposit 6 1 = INVALID
            deposit 1 1 = ILLEGAL
            pay 1 1 1 = INVALID
            pay 1 2 0 = INVALID
            pay 1 2 1 = ILLEGAL
            pay 2 1 1 = ILLEGAL
            fee 0 1 = INVALID
            fee 1 1 = ILLEGAL
            fee 2 1 = ILLEGAL
            note 1000 = INVALID
            note 1 = ILLEGAL
            adopt 0 2 = INVALID
            adopt 1 0 = INVALID
            adopt 0 0 = FULL
            dismiss 1 = INVALID
            dismiss 0 = FULL
            # 60 entries: too little money comes first
            setPatience 2 = 1
            deposit 1 0 = INVALID
            deposit 1 1 = FULL
            pay 2 2 1 = INVALID
            pay 2 1 1 = ILLEGAL
            pay 1 2 1 = FULL
            fee 2 1000 = INVALID
            fee 2 1 = ILLEGAL
            fee 1 1 = FULL
            note -1 = INVALID
            note 1 = FULL
            # ten branches
            new
            """ + ChainBounds.branches(10, 0) + """
            note 1 = 11
            goBack 12 = INVALID
            goBack 10 = ILLEGAL
            goBack 0 = FULL
            # branches that wait no more, for which there would be no room
            new
            setPatience 30 = 3
            21 note 1
            goBack 1 = 0
            adopt 0 0 = 20
            adopt 0 2 = INVALID
            adopt 0 0 = ILLEGAL
            adopt 0 1 = ILLEGAL
            18 note 1
            dismiss 1 = INVALID
            dismiss 0 = ILLEGAL
            adopt 1 0 = INVALID
            adopt 0 1 = ILLEGAL
            # a branch with an entry that fails, for which there would be no room
            new
            deposit 1 5 = 1
            fee 1 5 = 2
            30 note 1
            goBack 1 = 0
            fee 1 1 = 33
            adopt 0 -1 = INVALID
            adopt 0 0 = ILLEGAL
            adopt 0 1 = FULL
            # forged amounts that are out of range, and would make a balance less than 0
            new
            deposit 1 5 = 1
            fee 1 5 = 2
            forge 1 0 = INVALID
            forge 2 1000 = INVALID
            forge 3 1000 = INVALID
            forge 1 4 = ILLEGAL
            forge 2 6 = ILLEGAL
            # empty slots, and none
            restore 2 = INVALID
            restore 0 = ILLEGAL
            # a full text
            100 append 49
            append 0 = INVALID
            append 256 = INVALID
            append 1 = FULL
            """);
    }

    private static void constants(Bounds bounds) {
        bounds.sentence("The constants: `INVALID_ARGUMENT = -100001`: An argument is out of range, or names something that does not exist.", due -> {
            due.is("INVALID_ARGUMENT", OrphanChain.INVALID_ARGUMENT, -100001);
            due.is("out of range", new OrphanChain().note(1000), -100001);
            due.is("does not exist", new OrphanChain().goBack(1), -100001);
        });
        bounds.sentence("`ILLEGAL_STATE = -100002`: The call is not possible in the present state.", due -> {
            due.is("ILLEGAL_STATE", OrphanChain.ILLEGAL_STATE, -100002);
            due.is("not possible", new OrphanChain().undo(), -100002);
        });
        bounds.sentence("`CAPACITY_EXCEEDED = -100003`: There is no room.", due -> {
            due.is("CAPACITY_EXCEEDED", OrphanChain.CAPACITY_EXCEEDED, -100003);
            OrphanChain chain = Make.entries(60);
            due.is("no room", chain.note(1), -100003);
        });
        bounds.sentence("`NONE = -100009`: There is no such value.", due -> {
            due.is("NONE", OrphanChain.NONE, -100009);
            due.is("no such value", new OrphanChain().onChain(1), -100009);
        });
        bounds.complete();
    }
}
