/** Boundary cases of promises 16 to 18: append, clearText, check. */
final class TextBounds {
    private TextBounds() {
    }

    static void all(Bounds bounds) {
        append(bounds);
        clearText(bounds);
        check(bounds);
    }

    private static void append(Bounds bounds) {
        bounds.section("Promise 16");
        bounds.sentence("Appends a character to the text.", """
            append 48 = 1
            check = -1001
            append 58 = 2
            check = -1002
            append 49 = 3
            check = 1
            # it is no action
            count 13 = 0
            undo = ILLEGAL
            # the hundredth
            97 append 49
            count 14 = 100
            """);
        bounds.sentence("`character`: character code, 1 to 255", """
            append -1 = INVALID
            append 0 = INVALID
            append 1 = 1
            append 255 = 2
            append 256 = INVALID
            count 14 = 2
            """);
        bounds.sentence("Returns the new length of the text;", """
            append 49 = 1
            append 49 = 2
            97 append 49
            append 49 = 100
            clearText = 100
            append 49 = 1
            """);
        bounds.sentence("INVALID_ARGUMENT if character is out of range;", """
            append MIN = INVALID
            append MAX = INVALID
            append NONE = INVALID
            append -255 = INVALID
            append 304 = INVALID
            append 65584 = INVALID
            count 14 = 0
            100 append 49
            append 0 = INVALID
            append 256 = INVALID
            """);
        bounds.sentence("CAPACITY_EXCEEDED if the text already has 100 characters.", """
            99 append 49
            append 50 = 100
            append 51 = FULL
            append 1 = FULL
            append 255 = FULL
            count 14 = 100
            clearText = 100
            append 51 = 1
            """);
        bounds.complete();
    }

    private static void clearText(Bounds bounds) {
        bounds.section("Promise 17");
        bounds.sentence("Makes the text empty.", """
            append "0:1"
            clearText = 3
            count 14 = 0
            check = -1000
            append "0:"
            check = -1002
            # a full text
            98 append 49
            clearText = 100
            count 14 = 0
            check = -1000
            # it is no action
            count 13 = 0
            """);
        bounds.sentence("Returns the previous length of the text.", """
            clearText = 0
            append 49 = 1
            clearText = 1
            clearText = 0
            100 append 49
            clearText = 100
            clearText = 0
            """);
        bounds.complete();
    }

    private static void check(Bounds bounds) {
        bounds.section("Promise 18");
        bounds.sentence("Checks the text as a proof.", """
            check = -1000
            check "0:1" = 1
            check "1:0" = INVALID
            note 1 = 1
            check "1:95" = 1
            # the links are those of now
            forge 1 2 = 1
            check "1:95" = 1
            relink 1 = 1
            check "1:95" = -1
            check "1:112" = 1
            """);
        bounds.sentence("The text stays.", """
            append "0:1"
            check = 1
            check = 1
            count 14 = 3
            append 44 = 4
            check = -1004
            check = -1004
            append 49 = 5
            check = -2
            check = -2
            count 14 = 5
            new
            append "9:1"
            check = INVALID
            check = INVALID
            count 14 = 3
            """);
        bounds.sentence("Returns the number of links told, if each is the link of the entry of the chain that it is to be;", """
            check "0:1" = 1
            note 1 = 1
            check "0:1,95" = 2
            check "0:1" = 1
            check "1:95" = 1
            # the greatest link and the least
            new
            note 582 = 1
            check "1:9972" = 1
            new
            deposit 3 581 = 1
            check "0:1,0" = 2
            # as many links as a text has room for
            new
            """ + shortLinks(48, "") + """
            count 14 = 99
            check = 49
            """);
        bounds.sentence("-1 minus the index (from 0) of the first one that is not", """
            note 1 = 1
            note 2 = 2
            check "0:2,95,0" = -1
            check "0:1,96,0" = -2
            check "0:1,94,0" = -2
            check "0:1,95,0" = -3
            check "1:94" = -1
            check "0:0" = -1
            check "0:9999" = -1
            check "0:9973" = -1
            # 9974 is 1 left over by 9973, but is not 1
            check "0:9974" = -1
            # the last of as many links as a text has room for
            new
            """ + shortLinks(48, "forge 48 999\nrelink 48\n") + """
            check = -49
            """);
        bounds.sentence("or for which the chain has no entry any more;", """
            check "0:1,1" = -2
            check "0:1,1,1" = -2
            note 1 = 1
            check "0:1,95" = 2
            check "0:1,95,0" = -3
            check "1:95,0" = -2
            # orphans are no entries of the chain
            goBack 0 = 0
            check "0:1,95" = -2
            # the last of as many links as a text has room for
            new
            """ + shortLinks(48, "goBack 47\n") + """
            check = -49
            """);
        bounds.sentence("-1000 minus the fault of the text if it has one (these two are no changes and no errors);", """
            check = -1000
            check "x" = -1000
            check "0:1x" = -1003
            check "0:1," = -1004
            # a fault comes ahead of a link that is not the one, and of an entry that is none
            check "0:2,x" = -1004
            check "0:1,1," = -1006
            check "9:1," = -1004
            check "9999:" = -1005
            count 13 = 0
            new
            append "0:1,1,1,1,1,1,1,1,1,1,1,1,1,1,1,1,1,1,1,1,1,1,1,1,1,1,1,1,1,1,1,1,1,1,1,1,1,1,1,1,1,1,1,1,1,1,1,1,1"
            check = -2
            append 44 = 100
            check = -1100
            """);
        bounds.sentence("INVALID_ARGUMENT if the first number is no entry of the chain.", """
            check "1:1" = INVALID
            check "9:1" = INVALID
            check "60:1" = INVALID
            check "9999:1" = INVALID
            note 1 = 1
            check "1:95" = 1
            check "2:1" = INVALID
            # an orphan
            goBack 0 = 0
            check "1:95" = INVALID
            check "1:1" = INVALID
            note 2 = 2
            check "1:95" = INVALID
            check "0:1" = 1
            # the last of 60
            dismiss 0 = 3
            56 note 1
            check "59:0" = -1
            check "60:0" = INVALID
            """);
        bounds.complete();
    }

    /** Deposits that get links of one digit each, what is done then, and the text that tells these links. */
    private static String shortLinks(int deposits, String then) {
        StringBuilder lines = new StringBuilder();
        StringBuilder proof = new StringBuilder("0:1");
        int link = 1;
        for (int entry = 1; entry <= deposits; entry++) {
            int parent = link;
            int account = 0;
            int amount = 0;
            do {
                amount = amount % 999 + 1;
                account += amount == 1 ? 1 : 0;
                link = (31 * parent + 7 + 13 * account + 17 * amount + 19 * entry) % 9973;
            } while (link > 9);
            lines.append("1 deposit ").append(account).append(' ').append(amount).append('\n');
            proof.append(',').append(link);
        }
        return lines + then + "append \"" + proof + "\"\n";
    }
}
