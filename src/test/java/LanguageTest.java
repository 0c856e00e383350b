import java.nio.file.Files;
import java.nio.file.Path;
import java.util.TreeSet;
import java.util.regex.Matcher;
import java.util.regex.Pattern;

/** What the source itself shows of LANGUAGE.md's rules; its path is the first argument. */
public final class LanguageTest {
    private static final String[] REFUSED = {"throw", "throws", "try", "catch", "finally", "synchronized", "assert",
        "package", "volatile", "transient", "native", "strictfp", "protected", "double", "float", "var", "Object",
        "Thread", "Random", "Class", "Exception", "Error", "hashCode", "toString", "equals"};
    private static final String[] LIBRARY = {"Arrays.fill", "Arrays.copyOf", "Arrays.copyOfRange", "System.arraycopy",
        "Math.abs", "Math.max", "Math.min", "Integer.bitCount", "Long.bitCount"};

    public static void main(String[] args) throws Exception {
        String source = Files.readString(Path.of(args.length > 0 ? args[0] : "src/main/java/LinenSigns.java"));
        Due.holds("only signs 1 to 127", source.chars().allMatch(c -> c < 128));
        String code = source.replaceAll("(?s)/\\*.*?\\*/", "").replaceAll("//[^\n]*", "")
            .replaceAll("\"[^\"\n]*\"", "TEXT").replaceAll("'[^'\n]+'", "0");
        for (String word : REFUSED) {
            Due.holds("no " + word, !found(code, "\\b" + word + "\\b"));
        }
        Due.holds("no lambda", !code.contains("->"));
        Due.holds("no method reference", !code.contains("::"));
        Due.holds("no static block", !found(code, "\\bstatic\\s*\\{"));
        Due.holds("no joining of texts by +", !found(code, "TEXT\\s*\\+|\\+\\s*TEXT"));
        Due.holds("no fill of what isn't numbers", !found(code, "Arrays\\.fill\\([^)]*(true|false)\\)"));
        library(code);
        methodsAreShort(code);
        onlyStaticOnesCallThemselves(code);
        Due.end();
    }

    private static boolean found(String code, String pattern) {
        return Pattern.compile(pattern).matcher(code).find();
    }

    private static void library(String code) {
        Matcher imports = Pattern.compile("import ([^;]*);").matcher(code);
        while (imports.find()) {
            Due.holds("import " + imports.group(1), imports.group(1).equals("java.util.Arrays"));
        }
        TreeSet<String> used = new TreeSet<>();
        Matcher calls = Pattern.compile("\\b(?:[A-Z][a-z]\\w*)\\.\\w+").matcher(code.replaceAll("import [^;]*;", ""));
        while (calls.find()) {
            used.add(calls.group());
        }
        used.removeAll(java.util.List.of(LIBRARY));
        Due.holds("nothing of the library but what is listed: " + used, used.isEmpty());
    }

    private static void methodsAreShort(String code) {
        String[] lines = code.split("\n");
        int start = -1;
        String close = "";
        for (int i = 0; i < lines.length; i++) {
            if (start < 0 && lines[i].matches(" +[^=;]*\\) \\{") && !lines[i].matches(" *(\\} )?(if|else|for|while|switch).*")) {
                start = i;
                close = lines[i].replaceAll("\\S.*", "") + "}";
            } else if (start >= 0 && lines[i].equals(close)) {
                Due.holds(lines[start].trim() + " is short", i - start < 60);
                start = -1;
            }
        }
        Due.is("each method ends", start, -1);
    }

    /** Rule 8: one that isn't static may only call another one that calls it. */
    private static void onlyStaticOnesCallThemselves(String code) {
        Matcher methods = Pattern.compile("(?m)^( +)((?:\\w+ )*)\\w+(?:\\[\\])? (\\w+)\\([^)]*\\) \\{$").matcher(code);
        int found = 0;
        while (methods.find()) {
            int end = code.indexOf("\n" + methods.group(1) + "}", methods.end());
            if (methods.group(2).contains("new ") || methods.group(2).contains("else ") || end < 0) {
                continue;
            }
            found++;
            boolean isOwn = found(code.substring(methods.end(), end), "(?<![\\w.])" + methods.group(3) + "\\(");
            Due.holds(methods.group(3) + " does not call itself", methods.group(2).contains("static ") || !isOwn);
        }
        Due.holds("methods were found", found > 100);
    }
}
