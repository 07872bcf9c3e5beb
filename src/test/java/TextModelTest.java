import java.util.ArrayList;
import java.util.Arrays;
import java.util.HashMap;
import java.util.HashSet;
import java.util.List;
import java.util.Map;
import java.util.Random;
import java.util.Set;
import java.util.regex.Matcher;
import java.util.regex.Pattern;

/** Term I, promises 4 to 7: texts by seeds, right ones and spoilt ones, against a table of what each statement asks. */
public final class TextModelTest {
    private static final Set<String> OWN = Set.of("strip", "picture", "in", "turn", "any", "point", "row", "at", "weight",
        "control", "set", "centre");
    private static final List<String> KINDS = List.of("strip", "picture", "point", "row", "control", "centre");
    private static final int[] MOST = {6, 12, 20, 60, 10, Integer.MAX_VALUE};
    /** Behind the statement's first word: + a name to be given, strip, picture, point a name of that, = nothing told of it yet. */
    private static final String[] ASKED = {"+strip", "+picture .in strip .turn 0-3any", "+point", "picture point = .at 0-9999 0-9999 .weight 1-9",
        "point = .at 0-9999 0-9999 .set 1-2", "picture = .at 0-9999 0-9999 .weight 1-9"};
    private static final String[] PIECES = {"strip", "picture", "in", "turn", "any", "point", "row", "at", "weight", "control", "set", "centre",
        ";", " ", "\n", "0", "1", "4", "9", "10", "9999", "10000", "12345", "0001", "a", "b", "abcdef", "abcdefg", "controls", "stri", "any1", "1any",
        "strip s;", "point zz;", ";;", "A", "{", "`", "/", ":", "\t", "\r", "\0", "\u00ff"};

    private final Random random;
    private String text = "";
    private int at;
    private int behindToken;
    private int fault;
    private int place;
    private final Map<String, List<String>> names = new HashMap<>();
    private final Set<String> told = new HashSet<>();
    private final int[] many = new int[6];

    private TextModelTest(int seed) {
        random = new Random(seed);
    }

    public static void main(String[] args) {
        int[] faults = new int[5];
        for (int seed = 0; seed < 12000; seed++) faults[new TextModelTest(seed).compare("seed " + seed)]++;
        for (int kind = 0; kind < 5; kind++) Checks.due("seeds of fault " + kind + " are enough", faults[kind] > 40, true);
        Checks.finish("TextModelTest");
    }

    private int compare(String when) {
        text = invented();
        int spoils = random.nextInt(4);
        for (int k = 0; k < spoils; k++) spoil();
        if (text.length() > 1600) text = text.substring(0, 1600);
        int statements = read();
        PictureBlock x = new PictureBlock();
        String what = when + " <" + text + "> ";
        Checks.due(what + "block", Checks.block(x, text), statements);
        Checks.due(what + "fault", x.fault(0), fault);
        Checks.due(what + "place", x.fault(1), place);
        for (int kind = 0; kind < 6; kind++) Checks.due(what + "has " + kind, x.has(kind), fault == 0 ? many[kind] : 0);
        for (int kind = 0; kind < 3 && fault == 0; kind++) {
            List<String> of = names.getOrDefault(KINDS.get(kind), List.of());
            for (int which = 0; which < of.size(); which++) Checks.due(what + "name", nameTold(x, kind, which).equals(of.get(which)), true);
        }
        return fault;
    }

    private static String nameTold(PictureBlock x, int kind, int which) {
        StringBuilder name = new StringBuilder();
        for (int k = 0; k < 6; k++) {
            if (x.letter(kind, which, k) > 0) name.append((char) ('a' - 1 + x.letter(kind, which, k)));
        }
        return name.toString();
    }

    // ---- the model

    /** How many statements; -1 with a fault. */
    private int read() {
        at = 0;
        behindToken = -1;
        fault = 0;
        place = -1;
        for (int statements = 0; true; statements++) {
            skip();
            if (at == text.length()) return statements;
            int first = at;
            String word = token("[a-z]+");
            int kind = KINDS.indexOf(word);
            if (kind < 0 || many[kind] == MOST[kind]) {
                fault = kind < 0 ? 1 : 4;
                place = first;
                return -1;
            }
            StringBuilder meant = new StringBuilder(word);
            for (String slot : ASKED[kind].split(" ")) {
                if (!slotHolds(slot, meant)) return -1;
            }
            skip();
            if (!text.startsWith(";", at)) return spoilt(1, at);
            at++;
            behindToken = -1;
            many[kind]++;
        }
    }

    private int spoilt(int kind, int where) {
        fault = kind;
        place = where;
        return -1;
    }

    private void skip() {
        while (at < text.length() && (text.charAt(at) == ' ' || text.charAt(at) == '\n')) at++;
    }

    /** The word or number that begins here, none side by side with another; empty without. */
    private String token(String pattern) {
        Matcher m = Pattern.compile(pattern).matcher(text).region(at, text.length());
        if (at == behindToken || !m.lookingAt()) return "";
        at = m.end();
        behindToken = at;
        return m.group();
    }

    private boolean slotHolds(String slot, StringBuilder meant) {
        if (slot.equals("=")) return told.add(meant.toString()) || spoilt(3, at - meant.substring(meant.lastIndexOf(" ") + 1).length()) == 0;
        skip();
        int first = at;
        if (slot.charAt(0) == '.') return token("[a-z]+").equals(slot.substring(1)) || spoilt(1, first) == 0;
        if (Character.isDigit(slot.charAt(0))) return numberHolds(slot);
        String name = token("[a-z]+");
        if (name.isEmpty() || OWN.contains(name)) return spoilt(1, first) == 0;
        if (name.length() > 6) return spoilt(1, first + 6) == 0;
        meant.append(' ').append(name);
        if (slot.charAt(0) != '+') return names.getOrDefault(slot, List.of()).contains(name) || spoilt(3, first) == 0;
        for (List<String> there : names.values()) {
            if (there.contains(name)) return spoilt(3, first) == 0;
        }
        names.computeIfAbsent(slot.substring(1), of -> new ArrayList<>()).add(name);
        return true;
    }

    private boolean numberHolds(String slot) {
        int first = at;
        if (slot.endsWith("any") && token("any(?![a-z])").equals("any")) return true;
        String digits = token("[0-9]+");
        if (digits.isEmpty()) return spoilt(1, first) == 0;
        if (digits.length() > 4) return spoilt(1, first + 4) == 0;
        String[] ends = slot.replace("any", "").split("-");
        int number = Integer.parseInt(digits);
        return number >= Integer.parseInt(ends[0]) && number <= Integer.parseInt(ends[1]) || spoilt(2, first) == 0;
    }

    // ---- texts by seeds

    private String oneOf(List<String> of) {
        return of.get(random.nextInt(of.size()));
    }

    private List<String> given(int most, Set<String> used) {
        List<String> given = new ArrayList<>();
        int wanted = 1 + random.nextInt(most);
        while (given.size() < wanted) {
            StringBuilder name = new StringBuilder();
            int letters = 1 + random.nextInt(random.nextBoolean() ? 2 : 6);
            for (int k = 0; k < letters; k++) name.append((char) ('a' + random.nextInt(26)));
            if (!OWN.contains(name.toString()) && used.add(name.toString())) given.add(name.toString());
        }
        return given;
    }

    private String invented() {
        Set<String> used = new HashSet<>();
        boolean large = random.nextInt(3) == 0;
        List<String> strips = given(large ? 6 : 2, used);
        List<String> pictures = given(large ? 12 : 3, used);
        List<String> points = given(large ? 20 : 4, used);
        StringBuilder t = new StringBuilder();
        for (String s : strips) t.append("strip ").append(s).append(blank(";"));
        for (String p : pictures) {
            String turn = random.nextInt(3) == 0 ? "any" : "" + random.nextInt(4);
            t.append("picture ").append(p).append(" in ").append(oneOf(strips)).append(" turn ").append(turn).append(blank(";"));
        }
        for (String q : points) t.append("point ").append(q).append(blank(";"));
        Set<String> pairs = new HashSet<>();
        for (int n = random.nextInt(20); n > 0; n--) {
            int kind = 3 + random.nextInt(3);
            String pair = kind == 3 ? oneOf(pictures) + " " + oneOf(points) : kind == 4 ? oneOf(points) : oneOf(pictures);
            // now and then what is told already
            if (!pairs.add(kind + pair) && random.nextInt(20) > 0) continue;
            t.append(KINDS.get(kind)).append(' ').append(pair).append(blank(" at ")).append(random.nextInt(10000)).append(' ');
            t.append(random.nextInt(100)).append(kind == 4 ? " set " : " weight ").append(1 + random.nextInt(2)).append(blank(";"));
        }
        return t.toString();
    }

    private String blank(String ahead) {
        int kind = random.nextInt(6);
        return kind == 0 ? ahead + "\n" : kind == 1 ? " " + ahead + "  " : ahead;
    }

    private void spoil() {
        int from = random.nextInt(text.length() + 1);
        int to = Math.min(text.length(), from + 1 + random.nextInt(3));
        String piece = PIECES[random.nextInt(PIECES.length)];
        switch (random.nextInt(9)) {
            case 0: text = text.substring(0, from) + text.substring(to); break;
            case 1: text = text.substring(0, from) + piece + text.substring(from); break;
            case 2: text = text.substring(0, from); break;
            case 3: text = text.substring(0, from) + (char) random.nextInt(256) + text.substring(to); break;
            case 4: text = String.join(" ", spoiltOne(text.split(" "), piece)); break;
            case 5: text = String.join(";", twiceOne(text.split(";"))) + ";"; break;
            case 6: text = text + text.substring(0, to); break;
            default: text = otherNumber(); break;
        }
    }

    /** The text with another number for one of its numbers. */
    private String otherNumber() {
        Matcher m = Pattern.compile("[0-9]+").matcher(text);
        int wanted = random.nextInt(8);
        String[] others = {"0", "3", "4", "9", "10", "9999", "0000", "12345", "00001"};
        while (m.find()) {
            if (wanted-- > 0) continue;
            return text.substring(0, m.start()) + others[random.nextInt(others.length)] + text.substring(m.end());
        }
        return text;
    }

    private List<String> spoiltOne(String[] words, String piece) {
        List<String> all = new ArrayList<>(Arrays.asList(words));
        all.set(random.nextInt(all.size()), random.nextBoolean() ? piece : words[random.nextInt(words.length)]);
        return all;
    }

    private List<String> twiceOne(String[] statements) {
        List<String> all = new ArrayList<>(Arrays.asList(statements));
        if (!all.isEmpty()) all.add(random.nextInt(all.size() + 1), all.get(random.nextInt(all.size())));
        return all;
    }
}
