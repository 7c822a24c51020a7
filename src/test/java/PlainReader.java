import java.util.ArrayDeque;
import java.util.regex.Matcher;
import java.util.regex.Pattern;

/** Says what a right text is by counting, and finds THE PLACE by trying out how a text could go on. */
final class PlainReader {
    private PlainReader() {
    }

    static int place(String text, boolean definition) {
        for (int i = 0; i < text.length(); i++) {
            if (!couldBegin(text.substring(0, i + 1), definition)) {
                return i;
            }
        }
        return text.length();
    }

    /** A leaf is the shortest EXPRESSION and may stand wherever one is due: no other ending need be tried. */
    private static boolean couldBegin(String begun, boolean definition) {
        String[] links = definition ? new String[] {"", "="} : new String[] {""};
        for (String link : links) {
            String tried = begun + link;
            while (tried.length() <= 40) {
                if (isRight(tried, definition)) {
                    return true;
                }
                tried = tried + "1";
            }
        }
        return false;
    }

    static boolean isRight(String text, boolean definition) {
        if (text.length() > 40) {
            return false;
        }
        if (!definition) {
            return isExpression(text, "");
        }
        Matcher parts = Pattern.compile("[A-F]([a-f]{0,4})=(.*)").matcher(text);
        return parts.matches() && parts.group(1).chars().distinct().count() == parts.group(1).length()
                && isExpression(parts.group(2), parts.group(1));
    }

    static int partsOf(char c) {
        return "htz".indexOf(c) >= 0 ? 1 : ".+-*/%<=:".indexOf(c) >= 0 ? 2 : c == '?' ? 3 : 0;
    }

    private static boolean isExpression(String text, String parameters) {
        ArrayDeque<Integer> dueAtDepth = new ArrayDeque<>();
        dueAtDepth.push(1);
        for (char c : text.toCharArray()) {
            if (dueAtDepth.isEmpty() || dueAtDepth.peek() > 12) {
                return false;
            }
            int depth = dueAtDepth.pop();
            int parts = partsOf(c);
            if (parts == 0 && ("0123456789ABCDEFn" + parameters).indexOf(c) < 0) {
                return false;
            }
            for (int i = 0; i < parts; i++) {
                dueAtDepth.push(depth + 1);
            }
        }
        return dueAtDepth.isEmpty();
    }
}
