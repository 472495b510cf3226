import java.nio.file.Files;
import java.nio.file.Path;
import java.util.ArrayList;
import java.util.List;
import java.util.regex.Matcher;
import java.util.regex.Pattern;

/** Rules of LANGUAGE.md that can be seen in the words of the source. */
public final class LanguageTest {
    private static final String[] FORBIDDEN = {
        "\\bimport\\b", "\\bpackage\\b", "->", "::", "\\bsynchronized\\b", "\\bassert\\b",
        "\\bfinally\\b", "\\bcatch\\b", "\\btry\\b", "\\bthrow\\b", "\\bprotected\\b", "\\bObject\\b",
        "\\bSystem\\.(?!arraycopy\\b)", "\\bMath\\.(?!min\\b|max\\b|floorMod\\b)", "Exact\\b",
        "\\bThread\\b", "\\bRandom\\b", "\\bequals\\b", "\\bhashCode\\b", "\\btoString\\b", "\"",
        "[^\\x00-\\x7f]", "\\bstatic (?!final\\b)(?!\\w+ \\w+\\()", "\\bvar\\b", "<\\w+>"};
    private static final String[] FACE = {"roll", "rooms", "cover", "takeUp", "sell", "clear", "set",
        "type", "clearText", "fault", "undo", "keep", "restore", "rollOf", "offcut", "sorted", "room",
        "strip", "count", "wasted", "ifCovered", "best", "suits", "coverAll"};

    private static int wrong = 0;

    public static void main(String[] args) throws Exception {
        List<String> lines = Files.readAllLines(Path.of("src/main/java/CarpetCounter.java"));
        List<String> code = new ArrayList<>();
        boolean inComment = false;
        for (String line : lines) {
            inComment = inComment || line.contains("/*");
            code.add(inComment ? "" : line.replaceAll("//.*", ""));
            inComment = inComment && !line.contains("*/");
        }
        String text = String.join("\n", code);
        for (String word : FORBIDDEN) {
            Matcher m = Pattern.compile(word).matcher(text);
            while (m.find()) {
                tell("forbidden: " + m.group() + " at " + m.start());
            }
        }
        for (String name : FACE) {
            Matcher m = Pattern.compile("(?m)^ +(?:public )?(?:[\\w\\[\\]]+ )+" + name + "\\([^)]*\\) \\{").matcher(text);
            int found = 0;
            while (m.find()) {
                found++;
            }
            if (found != 1) {
                tell(name + " is declared " + found + " times");
            }
        }
        loops(code);
        sizes(code);
        System.out.println(wrong == 0 ? "the source is as due" : wrong + " faults");
        if (wrong != 0) {
            System.exit(1);
        }
    }

    /** Rule 9: a counter runs against a bound that the loop's own line tells, and none calls for it. */
    private static void loops(List<String> code) {
        String counter = "for \\(int (\\w+) = [^;]+; \\1 (?:<=?|>=) [\\w.]+(?: - 1)?; \\1(?:\\+\\+|--)\\) \\{";
        for (String line : code) {
            if (line.matches(".*\\b(?:while|do)\\b.*")
                    || line.matches(".*\\bfor\\b.*") && !line.trim().matches(counter)) {
                tell("no end to be seen: " + line.trim());
            }
        }
    }

    /** Rule 11: methods of some sixty lines and seven parameters, some twelve classes. */
    private static void sizes(List<String> code) {
        Pattern head = Pattern.compile("^( +)(?:\\w+ )*\\w+\\(([^)]*)\\) \\{$");
        int classes = 0;
        for (int i = 0; i < code.size(); i++) {
            classes += code.get(i).matches(" *(?:\\w+ )*class \\w+.*") ? 1 : 0;
            Matcher m = head.matcher(code.get(i));
            if (!m.matches()) {
                continue;
            }
            int end = i;
            while (!code.get(end).equals(m.group(1) + "}")) {
                end++;
            }
            if (end - i > 60 || m.group(2).split(",").length > 7) {
                tell("too long: " + code.get(i).trim());
            }
            makesNothing(code.subList(i, end));
        }
        if (classes > 12) {
            tell(classes + " classes");
        }
    }

    /** Rule 12 and the room for all calls of one run: rows are made by constructors alone. */
    private static void makesNothing(List<String> method) {
        boolean isConstructor = method.get(0).matches(" *(?:\\w+ )?[A-Z]\\w*\\(.*");
        for (String line : method) {
            if (!isConstructor && line.matches(".*\\b(?:new|clone|copyOf\\w*)\\b.*")) {
                tell("an object is made: " + line.trim());
            }
        }
    }

    private static void tell(String fault) {
        wrong++;
        System.out.println(fault);
    }
}
