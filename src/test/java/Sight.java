import java.util.ArrayList;
import java.util.LinkedHashMap;
import java.util.List;
import java.util.Map;
import java.util.function.Supplier;

/**
 * What all calls that look answer at one point of a run, as texts by names. There are more of them than one object
 * may take, so an object that has had its calls gives way to a new one that has come to the same point.
 */
final class Sight {
    private final Supplier<? extends Face> maker;
    private final Map<String, String> seen = new LinkedHashMap<>();
    private Face face;

    Sight(Supplier<? extends Face> maker) {
        this.maker = maker;
        lookAtConnection();
        for (int s = 1; s <= 7; s++) {
            lookAtStream(s);
        }
    }

    String get(String name) {
        return seen.get(name);
    }

    /** The names whose texts are others than in that sight, each with the text that it has here. */
    List<String> since(Sight before) {
        List<String> all = new ArrayList<>();
        seen.forEach((name, text) -> {
            if (!text.equals(before.get(name))) {
                all.add(name + "=" + text);
            }
        });
        return all;
    }

    private Face face() {
        if (face == null || face instanceof Desk desk && desk.left() == 0) {
            face = maker.get();
        }
        return face;
    }

    private void put(String name, int answer) {
        seen.put(name, Integer.toString(answer));
    }

    private void put(String name, List<?> row) {
        seen.put(name, text(row));
    }

    /** With blanks between them; four or more of the same as 7*4. */
    static String text(List<?> row) {
        List<String> all = new ArrayList<>();
        for (int at = 0; at < row.size(); ) {
            int end = at + 1;
            while (end < row.size() && row.get(end).equals(row.get(at))) {
                end++;
            }
            boolean many = end - at >= 4;
            all.add(row.get(at) + (many ? "*" + (end - at) : ""));
            at = many ? end : at + 1;
        }
        return String.join(" ", all);
    }

    private void lookAtConnection() {
        put("state(0)", face().state(0));
        put("code(0)", face().code(0));
        put("coming(0)", face().window(0, false));
        put("sending(0)", face().window(0, true));
        put("MOST", face().table(-1));
        List<Integer> table = new ArrayList<>();
        for (int k = 0; k <= 16; k++) {
            addToRow(table, k, face().table(k), "table");
        }
        put("TABLE", table);
        List<Integer> out = new ArrayList<>();
        int length = face().out(-1);
        for (int k = 0; k < length; k++) {
            out.add(face().out(k));
        }
        Check.same("out behind its last byte", face().out(length), -1);
        put("OUT", out);
    }

    private static void addToRow(List<Integer> row, int k, int answer, String call) {
        if (answer != -1) {
            Check.same(call + ": how many are before number " + k, row.size(), k);
            row.add(answer);
        }
    }

    private void lookAtStream(int s) {
        put("state(" + s + ")", face().state(s));
        put("code(" + s + ")", face().code(s));
        put("coming(" + s + ")", face().window(s, false));
        put("sending(" + s + ")", face().window(s, true));
        List<Integer> headers = new ArrayList<>();
        for (int k = 0; k <= 8; k++) {
            addToRow(headers, k, face().header(s, k), "header");
        }
        put("headers(" + s + ")", headers);
        put("messages(" + s + ")", face().messages(s));
        put("skipped(" + s + ")", face().skipped(s));
        put("size(" + s + ")", face().size(s));
        List<String> message = new ArrayList<>();
        int nodes = face().nodes(s);
        for (int node = 0; node < nodes; node++) {
            message.add(face().typeOf(s, node) + "{" + textOfNode(s, node) + "}");
        }
        Check.same("typeOf behind the last node", face().typeOf(s, nodes), -1);
        Check.same("many behind the last node", face().many(s, nodes, 1), 0);
        put("message(" + s + ")", message);
    }

    /** Each field that has values, with them behind it. */
    private String textOfNode(int s, int node) {
        List<String> fields = new ArrayList<>();
        for (int number = 0; number <= 16; number++) {
            int many = face().many(s, node, number);
            StringBuilder values = new StringBuilder();
            for (int i = 0; i < many; i++) {
                values.append(i == 0 ? number + "=" : ",").append(textOfValue(s, node, number, i));
            }
            if (many > 0) {
                fields.add(values.toString());
            }
            Check.same("value behind the last one", face().value(s, node, number, many), 0);
            Check.same("byteOf behind the last value", face().byteOf(s, node, number, many, 0), -1);
        }
        return text(fields);
    }

    /** The value, and if it has bytes these too. */
    private String textOfValue(int s, int node, int number, int i) {
        int value = face().value(s, node, number, i);
        List<Integer> bytes = new ArrayList<>();
        if (face().byteOf(s, node, number, i, 0) >= 0) {
            for (int k = 0; k <= value; k++) {
                addToRow(bytes, k, face().byteOf(s, node, number, i, k), "byteOf");
            }
        }
        return bytes.isEmpty() ? "" + value : value + "[" + text(bytes) + "]";
    }
}
