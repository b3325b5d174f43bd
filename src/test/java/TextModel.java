import java.util.ArrayList;
import java.util.List;
import java.util.Map;
import java.util.TreeMap;
import java.util.regex.Matcher;
import java.util.regex.Pattern;

/** The texts of Terms 2 and 5 told once more: all FAULTS are gathered, then the due one is picked. */
final class TextModel {
    private static final Pattern TOKEN = Pattern.compile("[a-z]+|[0-9]+|.", Pattern.DOTALL);
    private static final Map<String, String> SCRIPT = Map.of("new", "r", "drop", "r", "see", "r",
        "copy", "rr", "load", "rrf", "store", "rfr", "go", "l");
    private static final Map<String, String> TRIAL = Map.of("party", "", "put", "cv", "get", "pc",
        "swap", "cvp", "fence", "");

    final List<HeapModel.Line> lines = new ArrayList<>();
    int fault;
    int place = -1;

    private final TreeMap<Integer, Integer> laterFaults = new TreeMap<>();

    TextModel(String text, boolean trial, int fields) {
        List<String> tokens = new ArrayList<>();
        List<Integer> places = new ArrayList<>();
        Matcher matcher = TOKEN.matcher(text);
        while (matcher.find()) {
            if (!matcher.group().equals(" ") && !matcher.group().equals("\n")) {
                tokens.add(matcher.group());
                places.add(matcher.start());
            }
        }
        places.add(text.length());
        int bad = readAll(tokens, places, trial, fields);
        if (bad >= 0) {
            fault = 1;
            place = places.get(bad);
            return;
        }
        blameTooMany(trial);
        if (!laterFaults.isEmpty()) {
            place = laterFaults.firstKey();
            fault = laterFaults.firstEntry().getValue();
        }
    }

    private final List<Integer> starts = new ArrayList<>();

    /** The number of the token with which no text goes on, or -1. */
    private int readAll(List<String> tokens, List<Integer> places, boolean trial, int fields) {
        int at = 0;
        if (trial && tokens.isEmpty()) {
            return 0;
        }
        while (at < tokens.size()) {
            String verb = tokens.get(at);
            String shape = (trial ? TRIAL : SCRIPT).get(verb);
            if (shape == null || trial && lines.isEmpty() && !verb.equals("party")) {
                return at;
            }
            starts.add(places.get(at));
            at++;
            int[] numbers = new int[3];
            for (int i = 0; i < shape.length(); i++, at++) {
                if (at == tokens.size() || !tokens.get(at).matches("[0-9]{1,2}")) {
                    return at;
                }
                numbers[i] = Integer.parseInt(tokens.get(at));
                if (numbers[i] >= limit(shape.charAt(i), fields)) {
                    laterFaults.put(places.get(at), 2);
                }
            }
            if (at == tokens.size() || !tokens.get(at).equals(";")) {
                return at;
            }
            at++;
            lines.add(new HeapModel.Line(verb, numbers[0], numbers[1], numbers[2]));
        }
        return -1;
    }

    private static int limit(char kind, int fields) {
        return switch (kind) {
            case 'r', 'v' -> 4;
            case 'f' -> fields;
            case 'l' -> 21;
            case 'c' -> 3;
            default -> 2;
        };
    }

    private void blameTooMany(boolean trial) {
        int parties = 0;
        int acts = 0;
        int all = 0;
        for (int i = 0; i < lines.size(); i++) {
            boolean tooMany;
            if (!trial) {
                tooMany = i >= 20;
            } else if (lines.get(i).verb().equals("party")) {
                parties++;
                acts = 0;
                tooMany = parties > 3;
            } else {
                acts++;
                all++;
                tooMany = acts > 4 || all > 9;
            }
            if (tooMany) {
                laterFaults.merge(starts.get(i), 3, Math::min);
            }
        }
    }
}
