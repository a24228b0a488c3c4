import java.util.ArrayList;
import java.util.Collections;
import java.util.List;
import java.util.NoSuchElementException;
import java.util.Random;

/** All promises: runs of calls, made by a fixed seed, on a desk and on the model, with like answers. */
public final class ModelTest {
    private static final int RUNS = 1500;
    private static final int CALLS = 480;
    private static final String THROWS = "NoSuchElementException";

    private final Random random;
    private final PriceDesk desk = new PriceDesk();
    private final Model model = new Model();
    private final List<String> told = new ArrayList<>();

    private ModelTest(long seed) {
        random = new Random(seed);
    }

    public static void main(String[] args) {
        int runs = args.length > 0 ? Integer.parseInt(args[0]) : RUNS;
        for (int run = 0; run < runs; run++) {
            ModelTest test = new ModelTest(run);
            test.tellText();
            for (int call = 0; call < CALLS; call++) {
                if (!test.same(test.anyCall())) {
                    System.out.println("run " + run + " differs: " + String.join("\n  ", test.told));
                    System.exit(1);
                }
            }
        }
        System.out.println("ModelTest: " + runs + " runs are like the model's");
    }

    interface Call {
        Object answer();
    }

    private record Both(String call, Call desk, Call model) {
    }

    private static Object answer(Call call) {
        try {
            return call.answer();
        } catch (NoSuchElementException e) {
            return THROWS;
        }
    }

    private boolean same(Both both) {
        Object got = answer(both.desk);
        Object want = answer(both.model);
        told.add(both.call + " answered " + got + ", model " + want);
        return got.equals(want);
    }

    private int below(int bound) {
        return random.nextInt(bound);
    }

    private boolean rarely() {
        return below(25) == 0;
    }

    private int any() {
        int[] odd = {Integer.MIN_VALUE, Integer.MAX_VALUE, -1, -2, 36, 6, 7, 30, 740, 1000, 0};
        return odd[below(odd.length)];
    }

    private int index() {
        return rarely() ? any() : below(Math.max(1, model.now(1)));
    }

    private int deal() {
        return rarely() ? any() : below(Math.max(1, model.now(2)));
    }

    private int month() {
        if (rarely()) {
            return any();
        }
        int now = model.now(0);
        return below(3) == 0 ? below(36) : Math.max(0, now - below(5));
    }

    private int number() {
        return rarely() ? any() : below(4) == 0 ? 1 + below(999) : 90 + below(40);
    }

    private int sent() {
        return rarely() ? any() : below(Math.max(1, model.now(3)));
    }

    private int what(int most) {
        return rarely() ? any() : below(most + 1);
    }

    private Both anyCall() {
        int choice = below(100);
        if (choice < 50) {
            return anyAct(choice);
        }
        return choice < 75 ? anyLook() : anyReckoning();
    }

    private Both anyAct(int choice) {
        int a = index();
        int m = month();
        int v = number();
        if (choice < 18) {
            boolean isFinal = below(2) == 0;
            return new Both("publish " + a + " " + m + " " + v + " " + isFinal,
                () -> desk.publish(a, m, v, isFinal), () -> model.publish(a, m, v, isFinal));
        }
        if (choice < 24) {
            int at = below(3) == 0 ? m : Math.max(0, model.value(a, 35, 3));
            return new Both("rebase " + a + " " + at + " " + v, () -> desk.rebase(a, at, v), () -> model.rebase(a, at, v));
        }
        if (choice < 36) {
            int c = deal();
            return new Both("deliver " + c + " " + m + " " + v, () -> desk.deliver(c, m, v), () -> model.deliver(c, m, v));
        }
        if (choice < 41) {
            return new Both("close", desk::close, model::close);
        }
        if (choice < 45) {
            return new Both("undo", desk::undo, model::undo);
        }
        if (choice < 49) {
            return tapeCall();
        }
        if (below(6) == 0) {
            tellText();
        }
        return new Both("fault", desk::fault, model::fault);
    }

    private Both tapeCall() {
        if (below(3) == 0) {
            int n = rarely() ? any() : below(model.now(6) + 2);
            return new Both("end " + n, () -> desk.end(n), () -> model.end(n));
        }
        int[] fed = {random.nextInt(), random.nextInt(), random.nextInt(), random.nextInt(), random.nextInt()};
        return new Both("feed", () -> desk.feed(fed[0], fed[1], fed[2], fed[3], fed[4]), () -> model.feed(fed));
    }

    private Both anyLook() {
        int a = index();
        int c = deal();
        int d = sent();
        int m = month();
        switch (below(5)) {
            case 0: {
                int what = what(6);
                return new Both("now " + what, () -> desk.now(what), () -> model.now(what));
            }
            case 1: {
                int what = what(3);
                return new Both("value " + a + " " + m + " " + what, () -> desk.value(a, m, what), () -> model.value(a, m, what));
            }
            case 2: {
                int k = what(3);
                int what = what(2);
                return new Both("rebased " + a + " " + k + " " + what,
                    () -> desk.rebased(a, k, what), () -> model.rebased(a, k, what));
            }
            case 3: {
                int what = what(20);
                return new Both("contract " + c + " " + what, () -> desk.contract(c, what), () -> model.contract(c, what));
            }
            default: {
                int what = what(8);
                return new Both("delivery " + d + " " + what, () -> desk.delivery(d, what), () -> model.delivery(d, what));
            }
        }
    }

    private Both anyReckoning() {
        int a = index();
        int c = deal();
        int d = sent();
        int m = month();
        int v = number();
        int kind = below(12);
        if (kind < 2) {
            int to = month();
            return new Both("ratio " + a + " " + m + " " + to, () -> desk.ratio(a, m, to), () -> model.ratio(a, m, to));
        }
        if (kind < 5) {
            int what = what(2);
            return new Both("price " + c + " " + m + " " + what, () -> desk.price(c, m, what), () -> model.price(c, m, what));
        }
        if (kind < 7) {
            return new Both("were " + c + " " + a + " " + v, () -> desk.were(c, a, v), () -> model.were(c, a, v));
        }
        if (kind < 8 && below(4) == 0) {
            return new Both("rises " + c + " " + a, () -> desk.rises(c, a), () -> model.rises(c, a));
        }
        if (kind < 10) {
            int what = what(2);
            return new Both("amount " + d + " " + what, () -> desk.amount(d, what), () -> model.amount(d, what));
        }
        int what = what(3);
        return new Both("statement " + m + " " + what, () -> desk.statement(m, what), () -> model.statement(m, what));
    }

    private void tellText() {
        String text = below(2) == 0 ? someText() : spoiled(someText());
        if (below(10) == 0) {
            text = stretched(text);
        }
        same(new Both("end 0", () -> desk.end(0), () -> model.end(0)));
        byte[] bytes = text.getBytes(java.nio.charset.StandardCharsets.ISO_8859_1);
        for (int from = 0; from < bytes.length && from < 740; from += 20) {
            int[] fed = new int[5];
            for (int k = 0; k < 20; k++) {
                fed[k / 4] = fed[k / 4] << 8 | (from + k < bytes.length ? bytes[from + k] & 255 : 0);
            }
            desk.feed(fed[0], fed[1], fed[2], fed[3], fed[4]);
            model.feed(fed);
        }
        int n = Math.min(740, bytes.length);
        same(new Both("end " + n, () -> desk.end(n), () -> model.end(n)));
        if (!same(new Both("text " + text, desk::text, model::text))
            || !same(new Both("fault", desk::fault, model::fault))) {
            System.out.println("a text differs: " + String.join("\n  ", told));
            System.exit(1);
        }
    }

    private String someText() {
        int now = below(4) == 0 ? below(36) : below(6);
        StringBuilder text = new StringBuilder("month " + now + ";");
        int indexes = below(7);
        List<Integer> sizes = new ArrayList<>();
        for (int index = 0; index < indexes; index++) {
            int size = 1 + below(Math.min(now + 1, 6));
            sizes.add(size);
            text.append("index ").append(name(index));
            for (int month = 0; month < size; month++) {
                text.append(' ').append(below(8) == 0 ? 1 + below(999) : 90 + below(30));
            }
            text.append(below(3) == 0 ? " ;\n" : ";");
        }
        int deals = below(7);
        for (int deal = 0; deal < deals; deal++) {
            text.append(dealLine(now, sizes));
        }
        return text.toString();
    }

    private static String name(int index) {
        return new String[] {"a", "steel", "abcdefgh", "bas", "z", "wages"}[index];
    }

    private String dealLine(int now, List<Integer> sizes) {
        List<Integer> order = new ArrayList<>();
        for (int index = 0; index < sizes.size(); index++) {
            order.add(index);
        }
        Collections.shuffle(order, random);
        int terms = below(sizes.size() + 1);
        int base = now;
        int left = 1000;
        StringBuilder formula = new StringBuilder();
        for (int k = 0; k < terms; k++) {
            base = Math.min(base, sizes.get(order.get(k)) - 1);
            int weight = below(5) == 0 ? 0 : below(left + 1);
            left -= weight;
            formula.append("+").append(weight).append(" ").append(name(order.get(k)));
        }
        return "contract " + (1 + below(9999)) + "=" + left + formula + " base " + below(base + 1)
            + (below(2) == 0 ? " all " : " beyond ") + (below(3) == 0 ? 0 : below(below(4) == 0 ? 1000 : 80))
            + " share " + (below(2) == 0 ? 100 : below(101)) + ";";
    }

    private String spoiled(String text) {
        StringBuilder spoilt = new StringBuilder(text);
        int place = below(spoilt.length());
        String[] pieces = {" ", ";", "=", "+", "a", "1", "0", " 9999 ", " base ", " month ", " index ", " contract ", ".",
            "\n", "?", " all ", " zz ", " 1000 ", "00000", "\u00ff", "\0", " steel "};
        switch (below(4)) {
            case 0: spoilt.deleteCharAt(place); break;
            case 1: spoilt.insert(place, pieces[below(pieces.length)]); break;
            case 2: spoilt.setLength(place); break;
            default: spoilt.setCharAt(place, (char) (32 + below(95))); break;
        }
        return spoilt.toString();
    }

    private String stretched(String text) {
        int place = text.indexOf(' ', below(text.length() + 1));
        int at = Math.max(0, place);
        int wanted = 690 + below(30);
        return text.length() >= wanted ? text : text.substring(0, at) + " ".repeat(wanted - text.length()) + text.substring(at);
    }
}
