/**
 * Texts by the grammar's own words: a fault is the first word or sign with which no text goes on. What is a text is found here
 * by trying out every way to part a row by the rules (nothing is read from left to right), and whether one goes on, by trying
 * out its ends. All short rows of words and signs are gone through, and all single bytes.
 */
public final class GrammarTest extends Trial {
    private static final int LONGEST = 6;
    private static final String OPERANDS = "h7", SIGNS = "()!|&<=>+-*/";
    /** By level, the loosest first: the signs that stand between its parts. */
    private static final String[] BETWEEN = {"|", "&", "<=>", "+-", "*/"};
    private static final int TEST = 2, PIECE = 5;

    private static int texts = 0, faults = 0;

    private static boolean isA(int level, String row) {
        return level == PIECE ? isPiece(row) : isA(level + 1, row) || isParted(level, row);
    }

    private static boolean isParted(int level, String row) {
        // A test has one sign at most, so that what stands ahead of it is a sum; other levels may have any number of theirs.
        int ahead = level == TEST ? level + 1 : level;
        for (int i = 1; i < row.length() - 1; i++) {
            boolean between = BETWEEN[level].indexOf(row.charAt(i)) >= 0;
            if (between && isA(ahead, row.substring(0, i)) && isA(level + 1, row.substring(i + 1))) {
                return true;
            }
        }
        return false;
    }

    private static boolean isPiece(String row) {
        int last = row.length() - 1;
        if (last < 1) {
            return last == 0 && OPERANDS.contains(row);
        }
        return row.charAt(0) == '!' && isPiece(row.substring(1))
                || row.charAt(0) == '(' && row.charAt(last) == ')' && isA(0, row.substring(1, last));
    }

    /** Whether a row can be the beginning of a text: at its end an operand may be wanting, and whatever is still open. */
    private static boolean goesOn(String row) {
        String ends = "";
        for (int i = 0; i <= row.length(); i++) {
            if (isA(0, row + ends) || isA(0, row + "7" + ends)) {
                return true;
            }
            ends += ")";
        }
        return false;
    }

    /** The row as a text, with blanks here and there. */
    private static String spaced(String row) {
        int salt = row.hashCode() >>> 3;
        StringBuilder text = new StringBuilder("fee ");
        for (int i = 0; i < row.length(); i++) {
            char c = row.charAt(i);
            // Two letters, or two digits, would be one word.
            boolean apart = i > 0 && row.charAt(i - 1) == c && OPERANDS.indexOf(c) >= 0;
            int blanks = (salt >> i & 1) * (1 + (salt >> i + 1 & 1));
            text.append(" ".repeat(apart ? 1 + blanks : blanks)).append(c);
        }
        return text.toString();
    }

    private static void spoilt(String row) {
        String text = spaced(row);
        faults++;
        due("fault of '" + text + "'", law(new GooseCounty(), text), -100 - (text.length() - 1));
        due("fault of '" + text + "' and more", law(new GooseCounty(), text + " ((7*/"), -100 - (text.length() - 1));
    }

    private static void right(String row) {
        String text = spaced(row);
        boolean whole = isA(0, row);
        texts += whole ? 1 : 0;
        GooseCounty x = new GooseCounty();
        due("text '" + text + "'", law(x, text), whole ? 0 : -100 - text.length());
        due("operands of '" + text + "'", x.textTold(0, 1), whole ? row.replaceAll("[^h7]", "").length() : BAD);
    }

    /** All rows that begin with this one. */
    private static void goThrough(String row) {
        right(row);
        if (row.length() == LONGEST) {
            return;
        }
        for (char c : (OPERANDS + SIGNS).toCharArray()) {
            if (goesOn(row + c)) {
                goThrough(row + c);
            } else {
                spoilt(row + c);
            }
        }
    }

    /** Behind "fee ", "fee h" and "fee (h" each byte by itself. */
    private static void bytes() {
        for (int b = 0; b < 256; b++) {
            char c = (char) b;
            boolean letter = c >= 'a' && c <= 'z';
            boolean digit = c >= '0' && c <= '9';
            int wanting = c == 'h' || c == 'b' || digit ? 0 : c == ' ' || c == '(' || c == '!' ? -105 : -104;
            due("fee, byte " + b, law(new GooseCounty(), "fee " + c), wanting);
            boolean between = "|&<=>+-*/".indexOf(c) >= 0;
            // A letter makes another word of h, one that is no name.
            int behind = c == ' ' ? 0 : between ? -106 : letter ? -104 : -105;
            due("fee h, byte " + b, law(new GooseCounty(), "fee h" + c), behind);
            int inside = c == ')' ? 0 : between || c == ' ' ? -107 : letter ? -105 : -106;
            due("fee (h, byte " + b, law(new GooseCounty(), "fee (h" + c), inside);
        }
    }

    public static void main(String[] args) {
        says("FAULT: the first byte of the first word or sign with which no TEXT goes on");
        goThrough("");
        says("any other byte is a sign by itself");
        bytes();
        end("texts are read by the grammar: " + texts + " texts, " + faults + " faults");
    }
}
