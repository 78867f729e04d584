import java.lang.reflect.InvocationTargetException;
import java.lang.reflect.Method;
import java.nio.file.Files;
import java.nio.file.Path;
import java.util.ArrayList;
import java.util.Arrays;
import java.util.List;
import java.util.Random;
import java.util.regex.Matcher;
import java.util.regex.Pattern;

/** Whole runs of 512 calls, by chance but always the same ones, on the program and on the Model: each answer alike. */
public final class RunTest {
    private static final Check CHECK = new Check("RunTest");
    private static final int RUNS = 400;
    private static final int CALLS = 512;
    private static final String[] SIGNS = {"0.", "1.", "012.", "ou", "ou?", "o?"};

    private record Call(Method asked, Method due, String name, String[] names) {
    }

    private final Random random;
    private final NoKnot x = new NoKnot();
    private final Model model = new Model();
    private final List<String> told = new ArrayList<>();
    private static final List<Call> CALLED = new ArrayList<>();
    private int made;
    private boolean same = true;

    private RunTest(int seed) {
        random = new Random(seed);
    }

    public static void main(String[] args) throws Exception {
        readFace();
        CHECK.is("calls of the face", CALLED.size(), 56);
        for (int run = 0; run < RUNS; run++) {
            RunTest test = new RunTest(run);
            while (test.made < CALLS && test.same) test.goOn();
            if (!test.same) System.out.println("RunTest, run " + run + ": " + String.join("; ", test.told));
        }
        CHECK.end();
    }

    /** The calls with their arguments' names stand in the document alone. */
    private static void readFace() throws Exception {
        String doc = Files.readString(Path.of("../shared/DOC.md"));
        String face = doc.substring(doc.indexOf("```java"), doc.indexOf("## Terms"));
        Matcher m = Pattern.compile("public (?:int|long) (\\w+)\\((.*)\\);").matcher(face);
        while (m.find()) {
            String[] parts = m.group(2).isEmpty() ? new String[0] : m.group(2).split(", ");
            String[] names = new String[parts.length];
            Class<?>[] types = new Class<?>[parts.length];
            for (int k = 0; k < parts.length; k++) {
                String type = parts[k].split(" ")[0];
                names[k] = parts[k].split(" ")[1];
                types[k] = type.equals("int") ? int.class : type.equals("long") ? long.class : boolean.class;
            }
            Method due = Model.class.getDeclaredMethod(m.group(1), types);
            CALLED.add(new Call(NoKnot.class.getMethod(m.group(1), types), due, m.group(1), names));
        }
    }

    private int below(int n) {
        return random.nextInt(n);
    }

    private int from(int low, int high) {
        return low + below(high - low + 1);
    }

    private void goOn() throws Exception {
        if (made == 0) basket(text());
        switch (below(70)) {
            case 0 -> basket(text());
            case 1, 2 -> picture();
            case 3, 4 -> row();
            case 5, 6 -> ask("ways", below(8), from(-1, 255));
            default -> anyCall();
        }
    }

    private void ask(String name, Object... given) throws Exception {
        for (Call c : CALLED) if (c.name.equals(name)) ask(c, given);
    }

    private void ask(Call c, Object[] given) throws Exception {
        if (made == CALLS || !same) return;
        made++;
        String what = c.name + Arrays.toString(given);
        told.add(what);
        try {
            long want = ((Number) c.due.invoke(model, given)).longValue();
            long got = ((Number) c.asked.invoke(x, given)).longValue();
            same = got == want;
            CHECK.is(what, got, want);
        } catch (InvocationTargetException e) {
            same = false;
            CHECK.is(what + " threw " + e.getCause(), 0, 1);
        }
    }

    // ---- texts

    private void feed(String text) throws Exception {
        for (int at = 0; at < text.length(); at += 20) {
            Object[] words = new Object[5];
            for (int k = 0; k < 5; k++) {
                int word = 0;
                for (int c = at + 4 * k; c < at + 4 * k + 4; c++) word = word << 8 | (c < text.length() ? text.charAt(c) : ' ');
                words[k] = word;
            }
            ask("feed", words);
        }
    }

    private void basket(String text) throws Exception {
        if (model.count(7) > 0) ask("basket", 0);
        feed(text);
        ask("basket", text.length());
    }

    private String text() {
        StringBuilder s = new StringBuilder();
        int stakes = below(12) == 0 ? 32 : from(3, 9);
        int kinds = from(1, 6);
        s.append("stakes ").append(stakes).append(";");
        if (below(2) == 0) s.append("wide ").append(from(1, below(2) == 0 ? 999 : 30)).append(";");
        for (int k = 0; k < kinds; k++) {
            s.append("rod ").append(from(2, below(3) == 0 ? 99 : 9)).append(" thick ").append(from(1, 9));
            s.append(" shrinks ").append(from(0, 50)).append(" price ").append(from(0, 5)).append(";");
        }
        int bands = below(8) == 0 ? 0 : from(1, 4);
        for (int b = 0; b < bands; b++) {
            int k = from(1, 4);
            int rounds = from(1, below(6) == 0 ? 12 : 4);
            s.append("band ").append(k).append(" before ").append(from(1, 4)).append(" behind ").append(from(1, 4));
            s.append(" rounds ").append(rounds).append(" from ").append(below(stakes)).append(" with");
            for (int j = 0; j < k; j++) s.append(' ').append(below(kinds));
            if (below(2) == 0) s.append(" left");
            if (below(2) == 0) s.append(below(2) == 0 ? " out " : " in ").append(from(0, 9));
            s.append(";");
            for (int slips = below(5) - 2; slips > 0; slips--) {
                s.append("slip ").append(b).append(' ').append(below(k)).append(' ').append(below(rounds * stakes)).append(';');
            }
        }
        if (below(2) == 0) s.append("overlap ").append(from(0, 20)).append(";");
        if (below(5) == 0) s.setCharAt(below(s.length()), "0 ;9?az".charAt(below(7)));
        if (below(16) == 0) s.setLength(below(s.length() + 1));
        if (s.length() > 500) s.setLength(500);
        return s.toString();
    }

    private void picture() throws Exception {
        int n = model.stakes();
        if (model.count(7) > 0) ask("basket", 0);
        String signs = SIGNS[below(SIGNS.length)];
        int many = from(1, 8);
        int period = from(2, 8);
        int over = from(1, period - 1);
        int k = from(1, 4);
        StringBuilder s = new StringBuilder();
        for (int row = 0; row < many; row++) {
            for (int stake = 0; stake < n; stake++) {
                boolean first = (row / k * n + stake + n - row % k) % period < over;
                boolean any = below(30) == 0;
                s.append(any ? signs.charAt(below(signs.length())) : signs.charAt(first ? 0 : signs.equals("ou?") ? 1 : signs.length() - 1));
            }
            s.append(below(60) == 0 ? "" : ";");
        }
        if (s.length() > 500) s.setLength(500);
        feed(s.toString());
        ask(signs.charAt(0) == 'o' ? "print" : "wish", below(20) == 0 ? from(0, 20) : s.length());
    }

    // ---- rows

    private void row() throws Exception {
        int row = below(4);
        int sort = below(3) == 0 ? 3 : from(1, 2);
        int[] sizes = {from(1, 9), 2 * from(1, 3), model.bands(), from(0, 12), from(0, 40)};
        int size = sizes[below(5)];
        int[] highs = {2, 3, 8, 40, 99, 300, 999, 9999};
        int high = highs[below(8)];
        int low = below(3) == 0 ? -high : below(12) == 0 ? 0 : 1;
        ask("numbers", row, sort, size);
        int width = 100;
        for (int i = 0; i < size && made < CALLS; i++) {
            boolean bowl = size == model.bands() && high > 300;
            if (bowl) width = Math.max(1, width + from(-9, 9) * model.rounds(i));
            ask("write", row, i, (long) (bowl ? width : from(low, high)));
        }
    }

    // ---- any call

    private void anyCall() throws Exception {
        Call c = CALLED.get(below(CALLED.size()));
        Class<?>[] types = c.asked.getParameterTypes();
        Object[] given = new Object[types.length];
        for (int k = 0; k < types.length; k++) {
            if (types[k] == boolean.class) given[k] = below(2) == 0;
            else if (types[k] == long.class) given[k] = below(2) == 0 ? random.nextLong() : (long) from(-300, 300);
            else given[k] = number(c.name, c.names[k]);
        }
        if (dear(c.name, given)) return;
        ask(c, given);
    }

    /** What the Model would take too long for. */
    private boolean dear(String name, Object[] given) {
        if (name.equals("bowl")) return model.bands() > 3;
        return name.equals("even") && (int) given[0] >= 0 && (int) given[0] < 4 && model.numbers((int) given[0]) > 6 && below(30) > 0;
    }

    private int number(String call, String name) {
        if (below(40) == 0) return new int[] {-1, 0, 1, 1 << 31, (1 << 31) - 1, -2, 1000}[below(7)];
        switch (name) {
            case "b": return call.equals("counts") ? from(3, 60) : call.equals("feed") ? random.nextInt() : near(model.bands());
            case "a": return call.equals("counts") ? from(3, 30) : random.nextInt();
            case "i": return call.equals("image") || call.equals("restore") ? near(2) : call.equals("write") ? near(9) : near(below(6) == 0 ? 50 : 9);
            case "j": return below(2) == 0 ? 0 : near(4);
            case "row": return call.equals("seen") ? near(5) : near(4);
            case "stake": return near(model.stakes());
            case "round", "r": return near(3);
            case "hand": return near(8);
            case "bits": return from(-2, 256);
            case "n": return call.equals("step") ? from(2, 60) : call.equals("numbers") ? from(-1, 41) : from(-1, 20);
            case "before", "behind": return from(below(9) == 0 ? 0 : 1, below(9) == 0 ? 10 : 4);
            case "m": return from(0, call.equals("border") ? 5 : 10);
            case "most": return call.equals("border") ? from(0, 7) : from(0, 5);
            case "kind", "rim": return from(below(5) == 0 ? -1 : 0, below(5) == 0 ? 6 : 1);
            case "w": return from(0, below(2) == 0 ? 1501 : 60);
            case "play": return from(0, below(2) == 0 ? 100 : 5);
            case "t": return from(0, below(2) == 0 ? 40 : 900);
            case "load": return from(-1, 9000);
            case "d": return from(-1, 19);
            case "c": return below(4) == 0 ? from(-1, 101) : from(0, 9);
            case "seed", "e": return random.nextInt();
            case "what": return what(call);
            default: return from(-1, 5);
        }
    }

    /** Mostly 0 to many less 1. */
    private int near(int many) {
        return many == 0 || below(8) == 0 ? below(2) == 0 ? -1 : many : below(many);
    }

    private int what(String call) {
        switch (call) {
            case "count": return from(-1, 10);
            case "even": return from(-2, 8);
            case "bowl": return from(-2, model.bands());
            case "band", "find", "plait": return below(2) == 0 ? from(-1, 7) : from(9, 19);
            default: return from(-1, below(3) == 0 ? 6 : 2);
        }
    }
}
