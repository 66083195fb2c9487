/** The numbers of the document, as literals: a constant of the class that isn't as told must not pass for right. */
abstract class Tests {
    static final int TERMS = Says.TERMS;
    static final int BAD = -1, FULL = -2, FINDING = -3, STATE = -4, NONE = -9;
    static final int NOTHING = 1, BEYOND = 2, UNLIKE = 3, NOUGHT = 4, SIZE = 5;
    static final int LOWEST = Integer.MIN_VALUE, HIGHEST = Integer.MAX_VALUE;
    static final int MOST_DEEDS = 40;
    static final String LETTERS = "prlsdk";
    static final int POLE = 0, ROTTEN = 1, LACED = 2, SPLICED = 3, RIDGE = 4, OAK = 5;

    /** Ints that are none of least .. most: beside its ends, far off, and such as are cut into it. */
    static int[] outside(int least, int most) {
        return new int[] {
            least - 1, most + 1, NONE, least - 256, most + 256, least + 65536, LOWEST, LOWEST + 1, HIGHEST - 1, HIGHEST,
        };
    }

    /** The ends of least .. most, and what is beside them within. */
    static int[] ends(int least, int most) {
        return new int[] {least, Math.min(least + 1, most), Math.max(most - 1, least), most};
    }
}
