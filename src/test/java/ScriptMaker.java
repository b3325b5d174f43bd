import java.util.Random;

/** Random texts: SCRIPTS that build, cut and lose, TRIALS, and texts with something wrong. */
final class ScriptMaker {
    private ScriptMaker() {
    }

    static String script(Random random, int fields) {
        return random.nextInt(3) == 0 ? mover(random, fields) : mixed(random, fields);
    }

    /** Takes the end of a chain out of it and puts it back, for ever: what barriers are for. */
    static String mover(Random random, int fields) {
        int f = random.nextInt(fields);
        String hung = random.nextBoolean() ? "new 2;store 1 " + f + " 2;drop 2;" : "";
        String made = "new 0;new 1;" + hung + "store 0 " + f + " 1;drop 1;";
        int from = hung.isEmpty() ? 4 : 7;
        String taken = "load 1 0 " + f + ";store 0 " + f + " 3;";
        String deeper = hung.isEmpty() || random.nextBoolean() ? "" : "load 2 1 " + f + ";store 1 " + f + " 3;";
        String back = deeper.isEmpty() ? "" : "store 1 " + f + " 2;drop 2;";
        return made + taken + deeper + back + "store 0 " + f + " 1;drop 1;see 0;go " + from + ";";
    }

    private static String mixed(Random random, int fields) {
        StringBuilder text = new StringBuilder();
        int lines = 1 + random.nextInt(20);
        for (int i = 0; i < lines; i++) {
            int r = random.nextInt(4);
            int s = random.nextInt(4);
            int f = random.nextInt(fields);
            switch (random.nextInt(14)) {
                case 0, 1, 2 -> text.append("new ").append(r);
                case 3 -> text.append("drop ").append(r);
                case 4 -> text.append("see ").append(r);
                case 5 -> text.append("copy ").append(r).append(' ').append(s);
                case 6, 7, 8 -> text.append("load ").append(r).append(' ').append(s).append(' ').append(f);
                case 9, 10, 11, 12 -> text.append("store ").append(r).append(' ').append(f).append(' ').append(s);
                default -> text.append("go ").append(random.nextInt(21));
            }
            text.append(random.nextInt(6) == 0 ? " ;\n" : ";");
        }
        if (random.nextInt(2) == 0 && lines < 20) {
            text.append("go ").append(random.nextInt(3)).append(';');
        }
        return text.toString();
    }

    static String trial(Random random) {
        StringBuilder text = new StringBuilder();
        int parties = 1 + random.nextInt(3);
        int room = 9;
        for (int p = 0; p < parties; p++) {
            text.append("party;");
            int acts = Math.min(room, random.nextInt(5));
            room -= acts;
            for (int i = 0; i < acts; i++) {
                int cell = random.nextInt(3);
                int value = random.nextInt(4);
                int register = random.nextInt(2);
                switch (random.nextInt(8)) {
                    case 0, 1, 2 -> text.append("put ").append(cell).append(' ').append(value);
                    case 3, 4, 5 -> text.append("get ").append(register).append(' ').append(cell);
                    case 6 -> text.append("swap ").append(cell).append(' ').append(value)
                        .append(' ').append(register);
                    default -> text.append("fence");
                }
                text.append(';');
            }
        }
        return text.toString();
    }

    /** At most 400 bytes, changed in a few places or not at all. */
    static String spoil(Random random, String whole) {
        StringBuilder text = new StringBuilder(whole);
        if (random.nextInt(5) == 0) {
            text.append(whole);
        }
        int changes = random.nextInt(4);
        String signs = "0123456789  ;;\nabegoxyz-A@[`{/:\u0000\u00e9party;";
        for (int i = 0; i < changes && text.length() > 0; i++) {
            int at = random.nextInt(text.length());
            char sign = signs.charAt(random.nextInt(signs.length()));
            switch (random.nextInt(3)) {
                case 0 -> text.setCharAt(at, sign);
                case 1 -> text.insert(at, sign);
                default -> text.deleteCharAt(at);
            }
        }
        if (random.nextInt(10) == 0) {
            text.setLength(random.nextInt(text.length() + 1));
        }
        text.setLength(Math.min(400, text.length()));
        return text.toString();
    }
}
