/** Every first word, in both states: which ones are illegal, privileged or not there. */
public final class LegalTest {

    /** Ways: D, A, at, behind, before, from, indexed, short, long, from PC, from PC indexed, number. */
    private static final String ANY = "111111111111";
    private static final String DATA = "101111111111";
    private static final String DATA_BUT_NUMBER = "101111111110";
    private static final String OPEN_ANY = "111111111000";
    private static final String OPEN_DATA = "101111111000";
    private static final String OPEN_MEMORY = "001111111000";
    private static final String CONTROL = "001001111110";
    private static final String STORING = "001011111000";
    private static final String LOADING = "001101111110";
    private static final String D = "100000000000";
    private static final String A = "010000000000";
    private static final String NUMBER = "000000000001";

    /** Bits of the first word, the ways of e, and of the operand in bits 6 to 11 if there is one. */
    private static final String[][] TOLD = {
        {"0000............", DATA, OPEN_DATA}, {"0001............", ANY, OPEN_ANY}, {"0010............", ANY, OPEN_ANY},
        {"0011000000......", OPEN_DATA}, {"0011000001......", OPEN_DATA}, {"0011000010......", OPEN_DATA},
        {"0011000011......", OPEN_DATA},
        {"0011000100......", OPEN_DATA}, {"0011000101......", OPEN_DATA}, {"0011000110......", OPEN_DATA},
        {"0011000111......", DATA},
        {"0011001000......", OPEN_DATA}, {"0011001001......", OPEN_DATA}, {"0011001010......", OPEN_DATA},
        {"0011001011......", DATA},
        {"0011001100......", OPEN_DATA}, {"0011001101......", OPEN_DATA}, {"0011001110......", OPEN_DATA},
        {"0011001111......", OPEN_DATA},
        {"0011010000......", OPEN_DATA}, {"0011010001......", OPEN_DATA}, {"0011010010......", OPEN_DATA},
        {"0011010011......", OPEN_DATA},
        {"0011010100......", D}, {"0011010100......", CONTROL},
        {"0011010101......", D}, {"0011010101......", STORING},
        {"0011010110......", D}, {"0011010110......", STORING},
        {"0011011000......", LOADING}, {"0011011001......", LOADING},
        {"0011011010......", CONTROL}, {"0011011011......", CONTROL},
        {"001101110000....", null}, {"0011011100010...", null}, {"0011011100011...", null},
        {"0011011100100...", null}, {"0011011100101...", null},
        {"00110111001100..", null}, {"0011011100110101", null}, {"001101110011011.", null},
        {"010....000......", DATA}, {"010....001......", ANY}, {"010....010......", ANY},
        {"010....011......", ANY}, {"010....111......", ANY},
        {"010....100......", OPEN_MEMORY}, {"010....101......", OPEN_MEMORY}, {"010....110......", OPEN_MEMORY},
        {"010....100......", D}, {"010....101......", D}, {"010....110......", D},
        {"010....100......", A}, {"010....101......", A}, {"010....110......", A},
        {"0110...000......", DATA}, {"0110...001......", ANY}, {"0110...010......", ANY},
        {"0110...011......", ANY}, {"0110...111......", ANY},
        {"0110...100......", OPEN_ANY}, {"0110...101......", OPEN_ANY}, {"0110...110......", OPEN_ANY},
        {"0111...0........", DATA}, {"0111...111......", DATA}, {"0111...1........", OPEN_MEMORY},
        {"0111...100......", D}, {"0111...100......", A}, {"0111...101......", D}, {"0111...101......", A},
        {"0111...110......", A},
        {"1000...0........", DATA}, {"1000...111......", DATA}, {"1000...1........", OPEN_MEMORY},
        {"1000...100......", D}, {"1000...100......", A},
        {"1001....00......", OPEN_DATA}, {"1001....01......", OPEN_ANY}, {"1001....10......", OPEN_ANY},
        {"1001....11......", OPEN_ANY},
        {"1011............", null},
        {"1100...1........", A}, {"1100...100......", DATA}, {"1100...1........", OPEN_DATA},
        {"1100100000......", DATA_BUT_NUMBER}, {"11001000........", OPEN_DATA},
        {"1100000000......", OPEN_DATA}, {"1100000001......", OPEN_DATA}, {"1100000010......", OPEN_DATA},
        {"1100001000......", OPEN_DATA}, {"1100001001......", OPEN_DATA}, {"1100001010......", OPEN_DATA},
        {"1100010000......", OPEN_DATA}, {"1100010001......", OPEN_DATA}, {"1100010010......", OPEN_DATA},
        {"1100011000......", OPEN_DATA}, {"1100011001......", OPEN_DATA}, {"1100011010......", OPEN_DATA},
        {"1100101000......", OPEN_DATA}, {"1100101001......", OPEN_DATA}, {"1100101010......", OPEN_DATA},
        {"1100110000......", OPEN_DATA}, {"1100110001......", OPEN_DATA}, {"1100110010......", OPEN_DATA},
        {"1100000000......", NUMBER}, {"1100001000......", NUMBER}, {"1100101000......", NUMBER},
        {"1100000001......", NUMBER}, {"1100001001......", NUMBER}, {"1100101001......", NUMBER},
        {"1101....00......", null}, {"1101....01......", null}, {"1101....10......", null},
        {"11010...11......", OPEN_MEMORY},
        {"1110...0........", null}, {"1110...100......", CONTROL}, {"1110...101......", DATA},
    };

    private static final String[][] PRIVILEGED = {
        {"0011001011......", DATA}, {"0011011100100...", null}, {"0011011100101...", null},
        {"0011011100110000", null}, {"0011011100110010", null}, {"0011011100110011", null},
        {"1100000001......", NUMBER}, {"1100001001......", NUMBER}, {"1100101001......", NUMBER},
    };

    public static void main(String[] args) {
        Check check = new Check("LegalTest");
        for (int word = 0; word < 65536; word++) {
            int due = due(word);
            int got = new Rig(word).step();
            check.that("supervisor, word " + Integer.toHexString(word) + " answered " + got,
                    due == 0 ? got != 4 && got != 8 && got != 10 && got != 11 : got == due);
            int dueUser = due == 0 && isTold(PRIVILEGED, word) ? 8 : due;
            int gotUser = new Rig(word).user().step();
            check.that("user, word " + Integer.toHexString(word) + " answered " + gotUser,
                    dueUser == 0 ? gotUser != 4 && gotUser != 8 && gotUser != 10 && gotUser != 11 : gotUser == dueUser);
        }
        check.end();
    }

    private static int due(int word) {
        if (word >>> 12 == 10) {
            return 10;
        }
        if (word >>> 12 == 15) {
            return 11;
        }
        return isTold(TOLD, word) ? 0 : 4;
    }

    private static boolean isTold(String[][] rows, int word) {
        for (String[] row : rows) {
            if (fits(row[0], word) && allows(row[1], word) && (row.length < 3 || allows(row[2], word >>> 6))) {
                return true;
            }
        }
        return false;
    }

    private static boolean fits(String bits, int word) {
        for (int i = 0; i < 16; i++) {
            char bit = bits.charAt(i);
            if (bit != '.' && bit - '0' != (word >>> 15 - i & 1)) {
                return false;
            }
        }
        return true;
    }

    private static boolean allows(String ways, int operand) {
        int mode = operand >>> 3 & 7;
        int way = mode < 7 ? mode : 7 + (operand & 7);
        return ways == null || way < 12 && ways.charAt(way) == '1';
    }
}
