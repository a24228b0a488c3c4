import java.io.PrintWriter;
import java.io.StringWriter;
import java.util.ArrayList;
import java.util.HashMap;
import java.util.HashSet;
import java.util.List;
import java.util.Map;
import java.util.Set;
import java.util.regex.Matcher;
import java.util.regex.Pattern;
import java.util.spi.ToolProvider;

/** Rules 8 and 11 of LANGUAGE.md: no method comes back to itself, and calls go at most eight deep. */
public final class DepthTest {
    private static final int DEEPEST = 8;
    private static final Pattern CLASS = Pattern.compile("^[a-z ]*class (\\S+)");
    private static final Pattern METHOD = Pattern.compile("^  (.*?)([\\w$]+)\\(.*\\).*;$");
    private static final Pattern CALL = Pattern.compile("invoke\\w+ .*// (?:Interface)?Method (?:([\\w$/]+)\\.)?\"?([\\w<>]+)\"?:");

    private final Map<String, Set<String>> calls = new HashMap<>();
    private final List<String> face = new ArrayList<>();

    public static void main(String[] args) {
        ToolProvider javap = ToolProvider.findFirst("javap").orElse(null);
        if (javap == null) {
            System.out.println("DepthTest: no javap here, not looked at");
            return;
        }
        DepthTest test = new DepthTest();
        test.read(disassembled(javap));
        Checks.due("calls of the face, and the constructor", test.face.size(), 21);
        for (String call : test.face) {
            List<String> deepest = test.deepest(call, new ArrayList<>());
            Checks.due("at most eight deep: " + deepest, deepest.size() <= DEEPEST, true);
        }
        Checks.finish("DepthTest");
    }

    private static String disassembled(ToolProvider javap) {
        List<String> line = new ArrayList<>(List.of("-cp", System.getProperty("java.class.path"), "-c", "-p", "PriceDesk"));
        for (Class<?> inside : PriceDesk.class.getDeclaredClasses()) {
            line.add(inside.getName());
        }
        StringWriter told = new StringWriter();
        javap.run(new PrintWriter(told, true), new PrintWriter(System.err, true), line.toArray(new String[0]));
        return told.toString();
    }

    private void read(String told) {
        String owner = "";
        String method = "";
        for (String line : told.split("\\R")) {
            Matcher ofClass = CLASS.matcher(line);
            Matcher ofMethod = METHOD.matcher(line);
            Matcher ofCall = CALL.matcher(line);
            if (ofClass.find()) {
                owner = ofClass.group(1);
            } else if (ofMethod.find()) {
                String name = ofMethod.group(2);
                method = owner + "." + (name.equals(owner) ? "<init>" : name);
                calls.put(method, new HashSet<>());
                if (owner.equals("PriceDesk") && ofMethod.group(1).startsWith("public ")) {
                    face.add(method);
                }
            } else if (ofCall.find() && calls.containsKey(method)) {
                String callee = ofCall.group(1) == null ? owner : ofCall.group(1);
                calls.get(method).add(callee + "." + ofCall.group(2));
            }
        }
    }

    /** The longest chain of calls from a method on, the method and the library's ones counted. */
    private List<String> deepest(String method, List<String> open) {
        List<String> longest = new ArrayList<>();
        Checks.due(method + " comes back to itself", open.contains(method), false);
        if (!open.contains(method)) {
            open.add(method);
            for (String callee : calls.getOrDefault(method, Set.of())) {
                List<String> chain = deepest(callee, open);
                longest = chain.size() > longest.size() ? chain : longest;
            }
            open.remove(method);
        }
        longest.add(0, method);
        return longest;
    }
}
