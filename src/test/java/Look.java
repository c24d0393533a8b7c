/** Writes down in few calls what can be seen of an object, as it is used for no more than 512. */
final class Look {
    private static final int[] COUNTS = {0, 1, 2, 3, 4, 5, 6, 7, 8, 9, 11, 12, 13, 14};
    private static final int[] OF_ENTRY = {0, 2, 3, 5, 8};

    private Look() {
    }

    static String at(OrphanChain chain) {
        StringBuilder seen = new StringBuilder();
        for (int what : COUNTS) {
            seen.append(chain.count(what)).append(' ');
        }
        int entries = chain.count(0);
        for (int entry = Math.max(0, entries - 2); entry < entries; entry++) {
            for (int what : OF_ENTRY) {
                seen.append(chain.entry(entry, what)).append(' ');
            }
        }
        for (int branch = 0; branch < 2; branch++) {
            seen.append(chain.branch(branch, 3)).append(' ').append(chain.branch(branch, 4)).append(' ');
        }
        return seen.append(chain.check()).toString();
    }
}
