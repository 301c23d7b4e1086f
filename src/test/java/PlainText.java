/** TEXTS by the grammar's own words: a function a line, and the FAULT by trying what could follow. */
final class PlainText {
    private static final class Off extends RuntimeException {
        private static final long serialVersionUID = 1L;
    }

    private final String text;
    private final String names;
    private final int[] values;
    private int at;

    private PlainText(String text, String names, int[] values) {
        this.text = text;
        this.names = names;
        this.values = values;
    }

    static int work(String text, String names, int[] values) {
        PlainText reading = new PlainText(text, names, values);
        int v = reading.t(0);
        if (reading.at != text.length()) {
            throw new Off();
        }
        return v;
    }

    static boolean isText(String text, String names) {
        try {
            work(text, names, new int[names.length()]);
            return true;
        } catch (Off e) {
            return false;
        }
    }

    /** -1 if it is a TEXT. */
    static int fault(String text, String names) {
        if (isText(text, names)) {
            return -1;
        }
        for (int n = 1; n <= text.length(); n++) {
            if (!goesOn(text.substring(0, n), names)) {
                return n - 1;
            }
        }
        return text.length();
    }

    private static boolean goesOn(String start, String names) {
        String[] middles = {"", "1"};
        for (String middle : middles) {
            String tried = start + middle;
            for (int i = 0; i <= 5; i++) {
                if (isText(tried, names)) {
                    return true;
                }
                tried += ")";
            }
        }
        return false;
    }

    private char next() {
        return at < text.length() ? text.charAt(at) : 0;
    }

    private int t(int open) {
        int v = a(open);
        while (next() == '|') {
            at++;
            int w = a(open);
            v = v != 0 || w != 0 ? 1 : 0;
        }
        return v;
    }

    private int a(int open) {
        int v = b(open);
        while (next() == '&') {
            at++;
            int w = b(open);
            v = v != 0 && w != 0 ? 1 : 0;
        }
        return v;
    }

    private int b(int open) {
        int v = s(open);
        char sign = next();
        if (sign == '<' || sign == '=' || sign == '>') {
            at++;
            int w = s(open);
            boolean so = sign == '<' ? v < w : sign == '=' ? v == w : v > w;
            return so ? 1 : 0;
        }
        return v;
    }

    private int s(int open) {
        int v = p(open);
        while (next() == '+' || next() == '-') {
            char sign = next();
            at++;
            int w = p(open);
            v = sign == '+' ? v + w : v - w;
        }
        return v;
    }

    private int p(int open) {
        int v = q(open);
        while (next() == '*' || next() == '/' || next() == '%') {
            char sign = next();
            at++;
            int w = q(open);
            v = sign == '*' ? v * w : w == 0 ? 0 : sign == '/' ? v / w : v % w;
        }
        return v;
    }

    private int q(int open) {
        char sign = next();
        if (sign == '!' || sign == '(') {
            if (open == 5) {
                throw new Off();
            }
            at++;
            if (sign == '!') {
                return q(open + 1) == 0 ? 1 : 0;
            }
            int v = t(open + 1);
            if (next() != ')') {
                throw new Off();
            }
            at++;
            return v;
        }
        if (sign != 0 && names.indexOf(sign) >= 0) {
            at++;
            return values[names.indexOf(sign)];
        }
        int from = at;
        while (at - from < 4 && next() >= '0' && next() <= '9') {
            at++;
        }
        if (at == from) {
            throw new Off();
        }
        return Integer.parseInt(text.substring(from, at));
    }
}
