import java.util.ArrayList;
import java.util.Arrays;
import java.util.List;

/**
 * The document once more, as plainly as can be and on other ways than the class: texts are cut and reckoned anew
 * each time, faults come from a machine of states, what is in thought is tried out one by one.
 */
final class NaiveDinner implements Cloneable {
    int state, drunk, talk, fog, minute;
    int[][] seats = new int[12][5];
    List<int[]> boats = new ArrayList<>();
    int[][] got = new int[2][5];
    List<int[]> book = new ArrayList<>();
    String[] texts = {"", "", "", ""};
    List<NaiveDinner> past = new ArrayList<>();
    int faultCode, faultPlace = -1;
    boolean thought;
    int[] brought = new int[8];

    NaiveDinner() {
        for (int[] seat : seats) {
            seat[0] = 5;
        }
    }

    NaiveDinner copy() {
        NaiveDinner c = new NaiveDinner();
        c.state = state;
        c.drunk = drunk;
        c.talk = talk;
        c.fog = fog;
        c.minute = minute;
        for (int i = 0; i < 12; i++) {
            c.seats[i] = seats[i].clone();
        }
        for (int[] boat : boats) {
            c.boats.add(boat.clone());
        }
        c.got = new int[][] {got[0].clone(), got[1].clone()};
        c.book.addAll(book);
        c.texts = texts.clone();
        return c;
    }

    void takeOver(NaiveDinner c, boolean textsToo) {
        NaiveDinner d = c.copy();
        state = d.state;
        drunk = d.drunk;
        talk = d.talk;
        fog = d.fog;
        minute = d.minute;
        seats = d.seats;
        boats = d.boats;
        got = d.got;
        book = d.book;
        if (textsToo) {
            texts = d.texts;
        }
    }

    void keep() {
        past.add(copy());
        if (past.size() > 6) {
            past.remove(0);
        }
    }

    boolean undo() {
        if (past.isEmpty()) {
            return false;
        }
        takeOver(past.remove(past.size() - 1), false);
        return true;
    }

    int draw(int m) {
        state = state * 1664525 + 1013904223;
        return (int) ((state & 0xffffffffL) / 256 % m);
    }

    static int shore(int head) {
        return head == 1 ? 11 : 0;
    }

    int boat(int kind, int full, int at, int head) {
        if (kind < 0 || kind > 4 || full < 0 || full > 99 || at < 0 || at > 11 || head < 0 || head > 1
                || at == shore(head) || boats.size() == 8) {
            return -1;
        }
        boats.add(new int[] {kind, full, at, head, 0, 0});
        past.clear();
        return boats.size() - 1;
    }

    boolean set(int what, int who, int v) {
        int[][] bounds = {{0, 9}, {0, 9}, {-9, 9}, {0, 1}, {0, 999}, {0, 99}, {0, 9}, {0, 9}};
        if (what < 0 || what > 7 || v < bounds[what][0] || v > bounds[what][1]) {
            return false;
        }
        if (what < 5) {
            if (who < 0 || who > 11) {
                return false;
            }
            seats[who][what] = v;
        } else if (what < 7) {
            if (who < 0 || who >= boats.size()) {
                return false;
            }
            boats.get(who)[what == 5 ? 1 : 4] = v;
        } else {
            fog = v;
        }
        past.clear();
        return true;
    }

    boolean act(int what, int who, int v) {
        boolean boat = who >= 0 && who < boats.size();
        boolean seat = who >= 0 && who < 12;
        boolean ok = what == 0 && boat && v >= 0 && v < 12 && (reach(boats.get(who)[2]) >> v & 1) == 1
                || what == 1 && boat && v >= 1 && v <= boats.get(who)[1]
                || what == 2 && seat && seats[who][4] > 0
                || what == 3 && v >= 1 && v <= 9;
        if (!ok) {
            return false;
        }
        keep();
        if (what == 0) {
            boats.get(who)[2] = v;
            line(3, who, v);
            if (v == shore(boats.get(who)[3])) {
                land(who);
            }
        } else if (what == 1) {
            boats.get(who)[1] -= v;
            drunk += v;
            line(0, who, v);
        } else if (what == 2) {
            line(4, who, seats[who][4]);
            seats[who][4] = 0;
        } else {
            talk = v;
        }
        return true;
    }

    void line(int what, int which, int much) {
        if (!thought && book.size() < 150) {
            book.add(new int[] {minute, what, which, much});
        }
    }

    int minutes(int n) {
        if (n < 1 || n > 60 || minute + n > 9999) {
            return -1;
        }
        int landed = 0;
        for (int i = 0; i < n; i++) {
            keep();
            landed += oneMinute();
        }
        return landed;
    }

    int oneMinute() {
        for (String[] w : lines(2)) {
            if (Integer.parseInt(w[1]) == minute) {
                int a = Integer.parseInt(w[3]);
                switch (w[2]) {
                    case "fog": fog = a; break;
                    case "talk": talk = a; break;
                    case "salt": line(4, a, seats[a][4]); seats[a][4] = 0; break;
                    case "fill": boats.get(a)[1] = Integer.parseInt(w[4]); boats.get(a)[4] = 0; break;
                    default: boats.get(a)[3] ^= 1;
                }
            }
        }
        int landings = 0;
        if (talk > 0) {
            talk--;
            for (int[] b : boats) {
                b[4] = Math.min(9, b[4] + 1);
            }
        } else {
            for (int i = 0; i < boats.size(); i++) {
                if (boats.get(i)[2] != shore(boats.get(i)[3]) && sails(i)) {
                    landings++;
                }
            }
        }
        minute++;
        return landings;
    }

    private boolean sails(int i) {
        int[] b = boats.get(i);
        int much = Math.min(b[1], told(i, "pours"));
        b[1] -= much;
        if (seats[b[2]][3] == 1) {
            seats[b[2]][2] -= Integer.compare(seats[b[2]][2], 0);
        } else {
            drunk += much;
        }
        if (much > 0) {
            line(0, i, much);
        }
        int p = told(i, "passes");
        if (thought ? p >= 500 : draw(1000) < p) {
            b[2] += b[3] == 1 ? 1 : -1;
            int s = told(i, "spills");
            if (s > 0 && (thought ? s >= 500 : draw(1000) < s)) {
                int spilt = (int) Math.ceil(b[1] / 3.0);
                b[1] -= spilt;
                seats[b[2]][4] = Math.min(999, seats[b[2]][4] + spilt);
                if (spilt > 0) {
                    line(1, i, spilt);
                }
            }
        } else {
            b[4] = Math.min(9, b[4] + 1);
        }
        if (b[2] == shore(b[3])) {
            land(i);
            return true;
        }
        return false;
    }

    private void land(int i) {
        int[] b = boats.get(i);
        int much = Math.max(0, b[1] - b[4]);
        got[b[3]][b[0]] += much;
        brought[i] = much;
        b[5]++;
        b[1] = 0;
        b[4] = 0;
        line(2, i, much);
        int again = 0;
        for (String[] w : lines(1)) {
            if (Integer.parseInt(w[1]) == i) {
                again = Integer.parseInt(w[3]);
            }
        }
        if (again > 0) {
            b[1] = again;
            b[3] ^= 1;
        }
    }

    int goes(int n, int what) {
        if (n < 1 || n > 60 || what < 0 || what > 3) {
            return -1;
        }
        NaiveDinner t = copy();
        t.thought = true;
        for (int i = 0; i < n; i++) {
            t.oneMinute();
        }
        int[] sums = {0, t.drunk, 0, 0};
        sums[0] = Arrays.stream(t.got[0]).sum() + Arrays.stream(t.got[1]).sum();
        for (int[] s : t.seats) {
            sums[2] += s[4];
        }
        for (int[] b : t.boats) {
            sums[3] += b[4];
        }
        return sums[what];
    }

    int brings(int boat, int what) {
        if (boat < 0 || boat >= boats.size() || what < 0 || what > 1) {
            return -1;
        }
        NaiveDinner t = copy();
        t.thought = true;
        for (int i = 1; i <= 60; i++) {
            t.oneMinute();
            if (t.boats.get(boat)[5] > boats.get(boat)[5]) {
                return what == 0 ? t.brought[boat] : i;
            }
        }
        return -1;
    }

    int reach(int seat) {
        int set = 0;
        for (int i = 0; i < 12; i++) {
            if (Math.abs(i - seat) == 1) {
                set |= 1 << i;
            }
        }
        for (String[] w : lines(3)) {
            int a = Integer.parseInt(w[1]);
            int b = Integer.parseInt(w[3]);
            set |= a == seat ? 1 << b : b == seat ? 1 << a : 0;
        }
        return set;
    }

    // ---- the texts

    /** The tokens of a text, each with its place behind it in the second list. */
    static List<String> cut(String text, List<Integer> places) {
        List<String> tokens = new ArrayList<>();
        java.util.regex.Matcher m = java.util.regex.Pattern.compile("[A-Za-z]+|[0-9]+|[^ \n]").matcher(text);
        while (m.find()) {
            tokens.add(m.group());
            places.add(m.start());
        }
        return tokens;
    }

    List<String[]> lines(int k) {
        List<String[]> all = new ArrayList<>();
        List<String> tokens = cut(texts[k], new ArrayList<>());
        int from = 0;
        for (int i = 0; i < tokens.size(); i++) {
            if (tokens.get(i).equals(";")) {
                all.add(tokens.subList(from, i).toArray(new String[0]));
                from = i + 1;
            }
        }
        return all;
    }

    int text(int k, String text) {
        faultCode = 0;
        faultPlace = -1;
        if (k < 0 || k > 3) {
            return -1;
        }
        List<Integer> places = new ArrayList<>();
        List<String> tokens = cut(text, places);
        tokens.add("END");
        places.add(text.length());
        int[] found = k == 0 ? lawFault(tokens) : lineFault(k, tokens);
        if (found != null) {
            faultCode = found[0];
            faultPlace = places.get(found[1]);
            return -1;
        }
        texts[k] = text;
        if (k == 1 || k == 2) {
            past.clear();
        }
        return lines(k).size();
    }

    private static boolean number(String t) {
        return t.matches("[0-9]{1,4}");
    }

    /** The kinds of a line's tokens: a word, or # and its bounds. */
    private int[] lineFault(int k, List<String> tokens) {
        int boat = boats.size() - 1;
        String[] voyage = {"boat", "#0," + boat, "again", "#1,99", ";"};
        String[] reach = {"seat", "#0,11", "to", "#0,11", ";"};
        int at = 0;
        int count = 0;
        while (at < tokens.size() - 1) {
            String[] form = k == 1 ? voyage : reach;
            if (k == 2) {
                String word = at + 2 < tokens.size() ? tokens.get(at + 2) : "";
                String[][] tails = {{"fog", "#0,9"}, {"talk", "#0,9"}, {"salt", "#0,11"}, {"turn", "#0," + boat},
                    {"fill", "#0," + boat, "#0,99"}};
                form = new String[] {"at", "#0,999", "fog|talk|salt|fill|turn", ""};
                for (String[] tail : tails) {
                    if (tail[0].equals(word)) {
                        form = new String[3 + tail.length];
                        form[0] = "at";
                        form[1] = "#0,999";
                        System.arraycopy(tail, 0, form, 2, tail.length);
                        form[form.length - 1] = ";";
                    }
                }
            }
            for (int i = 0; i < form.length; i++) {
                String t = tokens.get(at + i);
                if (form[i].startsWith("#")) {
                    if (!number(t)) {
                        return new int[] {1, at + i};
                    }
                    int v = Integer.parseInt(t);
                    String[] b = form[i].substring(1).split(",");
                    if (v < Integer.parseInt(b[0]) || v > Integer.parseInt(b[1])
                            || k == 3 && i == 3 && Math.abs(v - Integer.parseInt(tokens.get(at + 1))) < 2) {
                        return new int[] {2, at + i};
                    }
                } else if (!t.equals(form[i])) {
                    return new int[] {1, at + i};
                } else if (i == 0 && count == 16) {
                    return new int[] {3, at};
                }
            }
            at += form.length;
            count++;
        }
        return null;
    }

    /** A machine of states with a stack of what is open. */
    private int[] lawFault(List<String> tokens) {
        String units = "kind|full|skin|steady|thirst|love|pirate|seat|head|fog|stain|minute";
        String state = "line";
        String side = "";
        StringBuilder open = new StringBuilder();
        int count = 0;
        for (int i = 0; i < tokens.size(); i++) {
            String t = tokens.get(i);
            boolean unit = number(t) || t.matches(units);
            switch (state) {
                case "line":
                    if (t.equals("END")) {
                        return null;
                    }
                    if (!t.matches("passes|pours|spills")) {
                        return new int[] {1, i};
                    }
                    if (count++ == 16) {
                        return new int[] {3, i};
                    }
                    state = "unit";
                    side = "first";
                    break;
                case "part":
                    if (!number(t)) {
                        return new int[] {1, i};
                    }
                    if (Integer.parseInt(t) == 0) {
                        return new int[] {2, i};
                    }
                    state = "behind";
                    break;
                case "so":
                    if (t.equals("not") || t.equals("(")) {
                        if (open.length() == 8) {
                            return new int[] {3, i};
                        }
                        open.append(t.charAt(0));
                        break;
                    }
                    side = "left";
                    // what follows is a unit
                case "unit":
                    if (!unit) {
                        return new int[] {1, i};
                    }
                    state = "behind";
                    break;
                default:
                    boolean closed = state.equals("closed");
                    if (!closed && t.matches("[-+*]")) {
                        state = "unit";
                    } else if (!closed && t.equals("/")) {
                        state = "part";
                    } else if (!closed && side.equals("first") && t.equals("when")) {
                        state = "so";
                    } else if (!closed && side.equals("left") && t.matches("[<=>]")) {
                        state = "unit";
                        side = "right";
                    } else if (!closed && side.equals("first") && t.equals(";")) {
                        state = "line";
                    } else if (closed || side.equals("right")) {
                        popNots(open);
                        if (t.equals("and") || t.equals("or")) {
                            state = "so";
                        } else if (t.equals(")") && open.length() > 0) {
                            open.setLength(open.length() - 1);
                            state = "closed";
                        } else if (t.equals(";") && open.length() == 0) {
                            state = "line";
                        } else {
                            return new int[] {1, i};
                        }
                    } else {
                        return new int[] {1, i};
                    }
            }
        }
        return null;
    }

    private static void popNots(StringBuilder open) {
        while (open.length() > 0 && open.charAt(open.length() - 1) == 'n') {
            open.setLength(open.length() - 1);
        }
    }

    int told(int boat, String word) {
        int[] b = boats.get(boat);
        int[] s = seats[b[2]];
        int v = word.equals("pours") ? s[1] + 5 * s[3] : word.equals("spills") ? 100 - 10 * s[0] + b[1]
                : 500 + 40 * s[0] - 50 * fog + (b[3] == 1 ? 20 : -20) * s[2];
        for (String[] w : lines(0)) {
            List<String> line = Arrays.asList(w);
            int when = line.indexOf("when");
            int end = when < 0 ? line.size() : when;
            if (line.get(0).equals(word) && (when < 0 || so(boat, line.subList(when + 1, line.size())))) {
                v = worth(boat, line.subList(1, end));
                break;
            }
        }
        return Math.max(0, Math.min(word.equals("pours") ? 99 : 1000, v));
    }

    /** Where a word stands last outside of all brackets; -1. */
    private static int lastOf(List<String> tokens, String words) {
        int depth = 0;
        for (int i = tokens.size() - 1; i >= 0; i--) {
            String t = tokens.get(i);
            depth += t.equals(")") ? 1 : t.equals("(") ? -1 : 0;
            if (depth == 0 && t.matches(words)) {
                return i;
            }
        }
        return -1;
    }

    private boolean so(int boat, List<String> t) {
        int at = lastOf(t, "or");
        if (at >= 0) {
            return so(boat, t.subList(0, at)) | so(boat, t.subList(at + 1, t.size()));
        }
        at = lastOf(t, "and");
        if (at >= 0) {
            return so(boat, t.subList(0, at)) & so(boat, t.subList(at + 1, t.size()));
        }
        if (t.get(0).equals("not")) {
            return !so(boat, t.subList(1, t.size()));
        }
        if (t.get(0).equals("(")) {
            return so(boat, t.subList(1, t.size() - 1));
        }
        at = lastOf(t, "[<=>]");
        int left = worth(boat, t.subList(0, at));
        int right = worth(boat, t.subList(at + 1, t.size()));
        return t.get(at).equals("<") ? left < right : t.get(at).equals("=") ? left == right : left > right;
    }

    private int worth(int boat, List<String> t) {
        int at = lastOf(t, "[-+]");
        at = at < 0 ? lastOf(t, "[*/]") : at;
        if (at >= 0) {
            int left = worth(boat, t.subList(0, at));
            int right = worth(boat, t.subList(at + 1, t.size()));
            switch (t.get(at)) {
                case "+": return left + right;
                case "-": return left - right;
                case "*": return left * right;
                default: return left / right;
            }
        }
        int[] b = boats.get(boat);
        switch (t.get(0)) {
            case "kind": return b[0];
            case "full": return b[1];
            case "skin": return b[4];
            case "steady": return seats[b[2]][0];
            case "thirst": return seats[b[2]][1];
            case "love": return seats[b[2]][2];
            case "pirate": return seats[b[2]][3];
            case "seat": return b[2];
            case "head": return b[3];
            case "fog": return fog;
            case "stain": return seats[b[2]][4];
            case "minute": return minute;
            default: return Integer.parseInt(t.get(0));
        }
    }
}
