import java.util.HashMap;
import java.util.Map;
import java.util.Random;
import java.util.regex.Matcher;
import java.util.regex.Pattern;

/** Texts, right ones and spoilt ones, held against a plain reader by patterns. */
public final class TextModelTest {
    private static final int TEXTS = 60000;
    private static final Pattern TOKEN = Pattern.compile("[a-z0-9]+|[^ \n]", Pattern.DOTALL);
    private static final Map<String, String> FORMS = new HashMap<>();
    private static final Map<String, Integer> MOST = new HashMap<>();

    public static void main(String[] args) {
        form("tanker", "1-99 0-9999 0-9999 0-9999 0-9999 0-9999 1-100 0-100 low-100", 1);
        form("compartment", "1-999 0-99 kind", 5);
        form("liquid", "1-20", 6);
        form("bar", "liquid liquid", 36);
        form("last", "compartment liquid", 20);
        form("drop", "liquid 1-4995", 4);
        Random random = new Random(700740);
        int[] kinds = new int[4];
        int long700 = 0;
        TankerDesk desk = new TankerDesk();
        for (int i = 0; i < TEXTS; i++) {
            String text = spoilt(random, right(random));
            int[] want = read(text);
            if (i % 5 == 0) {
                desk = new TankerDesk();
            }
            String told = Check.picture(desk);
            Check.due("text() of '" + text + "'", Check.tell(desk, text), want[0]);
            Check.due("fault() of '" + text + "'", desk.fault(), want[1]);
            if (want[0] < 0) {
                String now = Check.picture(desk);
                Check.due("all stays at '" + text + "'", now.substring(0, now.length() - 1).equals(told.substring(0, told.length() - 1)), true);
            }
            kinds[want[1]]++;
            long700 += want[0] == -701 ? 1 : 0;
        }
        for (int kind = 0; kind < 4; kind++) {
            Check.due("met often: fault " + kind + " (" + kinds[kind] + ")", kinds[kind] >= 500, true);
        }
        Check.due("met often: 700 (" + long700 + ")", long700 >= 500, true);
        Check.finish();
    }

    private static void form(String word, String fields, int most) {
        FORMS.put(word, fields);
        MOST.put(word, most);
    }

    /** What text() answers, and the kind of the fault. */
    private static int[] read(String text) {
        int end = Math.min(text.length(), 700);
        Matcher matcher = TOKEN.matcher(text);
        Map<String, Integer> told = new HashMap<>();
        String[] fields = null;
        int at = 0;
        int low = 0;
        int lines = 0;
        while (matcher.find() && matcher.start() < 700) {
            String token = matcher.group();
            int kind = 0;
            if (fields == null) {
                boolean first = token.equals("tanker");
                if (!FORMS.containsKey(token) || first != (lines == 0)) {
                    kind = 1;
                } else if (told.getOrDefault(token, 0) >= MOST.get(token)) {
                    kind = 3;
                } else {
                    fields = (FORMS.get(token) + " ;").split(" ");
                    at = 0;
                    told.merge(token, 1, Integer::sum);
                }
            } else {
                kind = unfit(token, fields[at], told, low);
                if (kind == 0 && fields.length == 10 && at == 7) {
                    low = Integer.parseInt(token);
                }
                at++;
                if (kind == 0 && at == fields.length) {
                    fields = null;
                    lines++;
                }
            }
            if (kind != 0) {
                return new int[] {-1 - matcher.start(), kind};
            }
        }
        return fields != null || text.length() > 700 ? new int[] {-1 - end, 1} : new int[] {lines, 0};
    }

    private static int unfit(String token, String field, Map<String, Integer> told, int low) {
        if (field.equals(";")) {
            return token.equals(";") ? 0 : 1;
        }
        if (field.equals("kind")) {
            return token.equals("open") || token.equals("baffled") ? 0 : 1;
        }
        if (!token.matches("[0-9]{1,4}")) {
            return 1;
        }
        int number = Integer.parseInt(token);
        if (!field.contains("-")) {
            return number < told.getOrDefault(field, 0) ? 0 : 2;
        }
        String[] bounds = field.replace("low", "" + low).split("-");
        return number >= Integer.parseInt(bounds[0]) && number <= Integer.parseInt(bounds[1]) ? 0 : 2;
    }

    private static String blank(Random random) {
        return random.nextInt(6) == 0 ? "\n " : " ";
    }

    private static String number(Random random, int least, int most) {
        switch (random.nextInt(6)) {
            case 0: return "" + least;
            case 1: return "" + most;
            case 2: return "0".repeat(4 - ("" + most).length()) + most;
            default: return "" + (least + random.nextInt(most - least + 1));
        }
    }

    /** A text that is right, but for lines too many now and then. */
    private static String right(Random random) {
        StringBuilder all = new StringBuilder("tanker");
        int low = random.nextInt(101);
        String[] head = (FORMS.get("tanker").replace("low", "" + low)).split(" ");
        for (int i = 0; i < head.length; i++) {
            String[] bounds = head[i].split("-");
            String value = number(random, Integer.parseInt(bounds[0]), Integer.parseInt(bounds[1]));
            all.append(blank(random)).append(i == 7 ? "" + low : value);
        }
        all.append(';');
        int compartments = 0;
        int liquids = 0;
        int lines = random.nextInt(12) + (random.nextInt(4) == 0 ? 50 : 0);
        for (int i = 0; i < lines && all.length() < 660; i++) {
            int sort = random.nextInt(5);
            if (sort == 0 && (compartments < 5 || random.nextInt(9) == 0)) {
                compartments++;
                all.append("compartment ").append(number(random, 1, 999)).append(blank(random)).append(number(random, 0, 99))
                        .append(random.nextBoolean() ? " open" : "\nbaffled").append(";");
            } else if (sort == 1 && (liquids < 6 || random.nextInt(9) == 0)) {
                liquids++;
                all.append("liquid ").append(number(random, 1, 20)).append(" ;");
            } else if (sort == 2 && liquids > 0) {
                all.append("bar ").append(random.nextInt(liquids)).append(blank(random)).append(random.nextInt(liquids)).append(";");
            } else if (sort == 3 && liquids > 0 && compartments > 0) {
                all.append(" last ").append(random.nextInt(compartments)).append(" ").append(random.nextInt(liquids)).append(";");
            } else if (sort == 4 && liquids > 0 && random.nextInt(3) == 0) {
                all.append("drop ").append(random.nextInt(liquids)).append(" ").append(number(random, 1, 4995)).append(";");
            }
        }
        return all.toString();
    }

    private static String spoilt(Random random, String right) {
        StringBuilder text = new StringBuilder(right);
        if (random.nextInt(5) == 0) {
            int size = 690 + random.nextInt(20);
            int at = random.nextInt(4) == 0 ? text.length() : text.lastIndexOf(";", text.length() - 2) + 1;
            while (text.length() < size) {
                text.insert(at, random.nextInt(9) == 0 ? '\n' : ' ');
            }
        }
        String signs = "  \n;;0123456789abcdeilmnopqrstz?A/:`{\t\u0000\u0080\u00ff\u00b0";
        int edits = random.nextInt(3) == 0 ? 0 : 1 + random.nextInt(2);
        for (int i = 0; i < edits && text.length() > 0; i++) {
            int at = random.nextInt(text.length());
            char sign = signs.charAt(random.nextInt(signs.length()));
            switch (random.nextInt(5)) {
                case 0: text.insert(at, sign); break;
                case 1: text.deleteCharAt(at); break;
                case 2: text.setCharAt(at, sign); break;
                case 3: text.setLength(random.nextInt(4) == 0 ? at : text.length()); break;
                default:
                    int from = text.lastIndexOf(";", at) + 1;
                    text.insert(from, text.substring(from, Math.min(text.length(), from + random.nextInt(25))));
            }
        }
        text.setLength(Math.min(text.length(), 740));
        return text.toString();
    }
}
