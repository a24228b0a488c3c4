import java.math.BigInteger;
import java.nio.charset.StandardCharsets;
import java.util.ArrayDeque;
import java.util.ArrayList;
import java.util.Arrays;
import java.util.Deque;
import java.util.List;
import java.util.NoSuchElementException;
import java.util.Set;
import java.util.TreeMap;
import java.util.regex.Matcher;
import java.util.regex.Pattern;

/**
 * The document told a second time, by other means, to compare the desk with: maps, big numbers, whole copies of
 * the state for undo, a list of all tokens, a scan of all values.
 */
final class Model {
    static final Set<String> TOLD = Set.of("month", "index", "contract", "base", "all", "beyond", "share");

    static final class Fault extends RuntimeException {
        private static final long serialVersionUID = 1L;
        final int place;
        final int kind;

        Fault(int place, int kind) {
            super(null, null, false, false);
            this.place = place;
            this.kind = kind;
        }
    }

    record Token(int place, String sign, char kind) {
    }

    record Published(int value, boolean isFinal) {
    }

    record Rebasing(int month, int old, int fresh) {
    }

    record Term(int weight, int index) {
    }

    record Deal(int price, int fixed, List<Term> terms, int base, boolean beyond, int limit, int part) {
    }

    record Sent(int contract, int due, int month, int quantity, int priced, int price, Integer settled, long trued) {
    }

    static final class State {
        int now = 0;
        List<TreeMap<Integer, Published>> indexes = new ArrayList<>();
        List<List<Rebasing>> rebasings = new ArrayList<>();
        List<Deal> deals = new ArrayList<>();
        List<Sent> sent = new ArrayList<>();

        State copy() {
            State copy = new State();
            copy.now = now;
            indexes.forEach(index -> copy.indexes.add(new TreeMap<>(index)));
            rebasings.forEach(list -> copy.rebasings.add(new ArrayList<>(list)));
            copy.deals.addAll(deals);
            copy.sent.addAll(sent);
            return copy;
        }
    }

    private byte[] tape = new byte[0];
    private int faultKind = 0;
    private State state = new State();
    private final Deque<State> undos = new ArrayDeque<>();

    int feed(int... numbers) {
        if (tape.length + 20 > 740) {
            return -1;
        }
        int from = tape.length;
        tape = Arrays.copyOf(tape, from + 20);
        for (int k = 0; k < 20; k++) {
            tape[from + k] = BigInteger.valueOf(numbers[k / 4] & 0xffffffffL).shiftRight(8 * (3 - k % 4)).byteValue();
        }
        return tape.length;
    }

    boolean end(int n) {
        if (n < 0 || n > tape.length) {
            return false;
        }
        tape = Arrays.copyOf(tape, n);
        return true;
    }

    int text() {
        String text = new String(tape, StandardCharsets.ISO_8859_1);
        tape = new byte[0];
        try {
            Reading reading = new Reading(text);
            int lines = reading.all();
            state = reading.state;
            undos.clear();
            faultKind = 0;
            return lines;
        } catch (Fault fault) {
            faultKind = fault.kind;
            return -1 - fault.place;
        }
    }

    int fault() {
        return faultKind;
    }

    private static final class Reading {
        private static final Pattern PIECE = Pattern.compile("[ \n]*([a-z0-9]+|[^ \n])", Pattern.DOTALL);
        final State state = new State();
        private final List<Token> tokens = new ArrayList<>();
        private final List<String> names = new ArrayList<>();
        private int at = 0;

        Reading(String text) {
            Matcher matcher = PIECE.matcher(text);
            while (matcher.find() && matcher.start(1) < 700) {
                String sign = matcher.group(1);
                tokens.add(new Token(matcher.start(1), sign, kind(sign)));
            }
            boolean isLong = text.length() > 700;
            tokens.add(new Token(isLong ? 700 : text.length(), "", isLong ? '?' : '.'));
        }

        private static char kind(String sign) {
            if (sign.matches("[a-z]{1,8}")) {
                return 'w';
            }
            if (sign.matches("[0-9]{1,4}")) {
                return 'n';
            }
            return sign.matches("[;=+]") ? 's' : '?';
        }

        private Token next() {
            return tokens.get(at);
        }

        private Token take(char kind) {
            Token token = next();
            if (token.kind != kind) {
                throw new Fault(token.place, 1);
            }
            at++;
            return token;
        }

        private void take(String sign) {
            Token token = next();
            if (!token.sign.equals(sign)) {
                throw new Fault(token.place, 1);
            }
            at++;
        }

        private int number(int least, int most) {
            Token token = take('n');
            int number = Integer.parseInt(token.sign);
            if (number < least || number > most) {
                throw new Fault(token.place, 2);
            }
            return number;
        }

        private Token name() {
            Token token = take('w');
            if (TOLD.contains(token.sign)) {
                throw new Fault(token.place, 1);
            }
            return token;
        }

        int all() {
            int lines = 0;
            while (next().kind != '.') {
                if (lines == 0) {
                    take("month");
                    state.now = number(0, 35);
                } else if (next().sign.equals("index")) {
                    index();
                } else {
                    deal();
                }
                take(";");
                lines++;
            }
            return lines;
        }

        private void index() {
            if (names.size() == 6) {
                throw new Fault(next().place, 4);
            }
            at++;
            Token name = name();
            if (names.contains(name.sign)) {
                throw new Fault(name.place, 3);
            }
            names.add(name.sign);
            TreeMap<Integer, Published> values = new TreeMap<>();
            do {
                int place = next().place;
                int value = number(1, 999);
                if (values.size() > state.now) {
                    throw new Fault(place, 2);
                }
                values.put(values.size(), new Published(value, true));
            } while (next().kind == 'n');
            state.indexes.add(values);
            state.rebasings.add(new ArrayList<>());
        }

        private void deal() {
            int word = next().place;
            take("contract");
            if (state.deals.size() == 6) {
                throw new Fault(word, 4);
            }
            int price = number(1, 9999);
            take("=");
            int fixed = number(0, 1000);
            List<Term> terms = new ArrayList<>();
            while (next().sign.equals("+")) {
                at++;
                int weight = number(0, 1000);
                Token name = name();
                int index = names.indexOf(name.sign);
                if (index < 0 || terms.stream().anyMatch(term -> term.index == index)) {
                    throw new Fault(name.place, 3);
                }
                terms.add(new Term(weight, index));
            }
            int basePlace = next().place;
            take("base");
            if (fixed + terms.stream().mapToInt(Term::weight).sum() != 1000) {
                throw new Fault(basePlace, 5);
            }
            int monthPlace = next().place;
            int base = number(0, state.now);
            if (!terms.stream().allMatch(term -> state.indexes.get(term.index).containsKey(base))) {
                throw new Fault(monthPlace, 5);
            }
            Token rule = next();
            if (!rule.sign.equals("all") && !rule.sign.equals("beyond")) {
                throw new Fault(rule.place, 1);
            }
            at++;
            int limit = number(0, 999);
            take("share");
            int part = number(0, 100);
            state.deals.add(new Deal(price, fixed, terms, base, rule.sign.equals("beyond"), limit, part));
        }
    }

    int now(int what) {
        int[] answers = {state.now, state.indexes.size(), state.deals.size(), state.sent.size(),
            (int) state.sent.stream().filter(sent -> sent.settled != null).count(), undos.size(), tape.length};
        return what >= 0 && what < answers.length ? answers[what] : -1;
    }

    private boolean noIndex(int index) {
        return index < 0 || index >= state.indexes.size();
    }

    private boolean noDeal(int contract) {
        return contract < 0 || contract >= state.deals.size();
    }

    private static boolean outside(int number, int least, int most) {
        return number < least || number > most;
    }

    int value(int index, int month, int what) {
        if (noIndex(index) || outside(month, 0, 35) || outside(what, 0, 3)) {
            return -1;
        }
        TreeMap<Integer, Published> values = state.indexes.get(index);
        Published here = values.get(month);
        if (what == 0) {
            return here == null ? -1 : here.value;
        }
        if (what == 1) {
            return here == null ? 0 : here.isFinal ? 2 : 1;
        }
        Integer known = values.floorKey(month);
        if (known == null) {
            return -1;
        }
        return what == 2 ? values.get(known).value : known;
    }

    int rebased(int index, int k, int what) {
        if (noIndex(index) || outside(k, 0, state.rebasings.get(index).size() - 1) || outside(what, 0, 2)) {
            return -1;
        }
        Rebasing rebasing = state.rebasings.get(index).get(k);
        return new int[] {rebasing.month, rebasing.old, rebasing.fresh}[what];
    }

    int ratio(int index, int from, int to) {
        if (noIndex(index) || from > to || !state.indexes.get(index).containsKey(from)
            || !state.indexes.get(index).containsKey(to)) {
            throw new NoSuchElementException();
        }
        return ratio(state, index, from, to).intValueExact();
    }

    private static BigInteger ratio(State state, int index, int from, int to) {
        BigInteger above = BigInteger.valueOf(state.indexes.get(index).get(to).value);
        BigInteger below = BigInteger.valueOf(state.indexes.get(index).get(from).value);
        for (Rebasing rebasing : state.rebasings.get(index)) {
            if (from <= rebasing.month && rebasing.month < to) {
                above = above.multiply(BigInteger.valueOf(rebasing.old));
                below = below.multiply(BigInteger.valueOf(rebasing.fresh));
            }
        }
        return above.multiply(BigInteger.valueOf(1_000_000)).divide(below).min(BigInteger.valueOf(99_999_999));
    }

    int contract(int contract, int what) {
        if (noDeal(contract)) {
            return -1;
        }
        Deal deal = state.deals.get(contract);
        List<Integer> figures = new ArrayList<>(List.of(deal.price, deal.fixed, deal.base, deal.limit, deal.part,
            deal.beyond ? 1 : 0, deal.terms.size()));
        for (Term term : deal.terms) {
            figures.add(term.weight);
            figures.add(term.index);
        }
        return outside(what, 0, figures.size() - 1) ? -1 : figures.get(what);
    }

    private static int[] figures(State state, Deal deal, int month) {
        BigInteger sum = BigInteger.valueOf(deal.fixed).multiply(BigInteger.valueOf(1_000_000));
        for (Term term : deal.terms) {
            int known = state.indexes.get(term.index).floorKey(month);
            sum = sum.add(ratio(state, term.index, deal.base, known).multiply(BigInteger.valueOf(term.weight)));
        }
        int factor = sum.divide(BigInteger.valueOf(1000)).intValueExact();
        long size = Math.abs(factor - 1_000_000L);
        long moved = size <= deal.limit * 1000L ? 0 : deal.beyond ? size - deal.limit * 1000L : size;
        long move = moved * deal.part / 100 * (factor < 1_000_000 ? -1 : 1);
        long price = Math.floorDiv(deal.price * (1_000_000 + move) + 500_000, 1_000_000L);
        return new int[] {factor, Math.toIntExact(move), Math.toIntExact(price)};
    }

    int price(int contract, int month, int what) {
        if (noDeal(contract) || outside(month, state.deals.get(contract).base, state.now) || outside(what, 0, 2)) {
            throw new NoSuchElementException();
        }
        return figures(state, state.deals.get(contract), month)[what];
    }

    int were(int contract, int index, int v) {
        if (noDeal(contract) || noIndex(index) || outside(v, 1, 999)) {
            return -1;
        }
        State other = state.copy();
        other.indexes.get(index).put(other.now, new Published(v, false));
        return figures(other, other.deals.get(contract), other.now)[2];
    }

    int rises(int contract, int index) {
        if (noDeal(contract) || noIndex(index)) {
            return -1;
        }
        for (int v = 1; v <= 999; v++) {
            if (were(contract, index, v) > state.deals.get(contract).price) {
                return v;
            }
        }
        return -2;
    }

    private int waits(Sent sent) {
        int bits = 0;
        for (Term term : state.deals.get(sent.contract).terms) {
            Published there = state.indexes.get(term.index).get(sent.priced);
            if (term.weight != 0 && (there == null || !there.isFinal)) {
                bits += 1 << term.index;
            }
        }
        return bits;
    }

    int delivery(int delivery, int what) {
        if (outside(delivery, 0, state.sent.size() - 1) || outside(what, 0, 8)) {
            return -1;
        }
        Sent sent = state.sent.get(delivery);
        boolean isSettled = sent.settled != null;
        return new int[] {sent.contract, sent.due, sent.month, sent.quantity, sent.priced, sent.price,
            isSettled ? 1 : 0, isSettled ? sent.settled : -1, isSettled ? 0 : waits(sent)}[what];
    }

    long amount(int delivery, int what) {
        if (outside(delivery, 0, state.sent.size() - 1) || outside(what, 0, 2)) {
            throw new NoSuchElementException();
        }
        Sent sent = state.sent.get(delivery);
        long billed = (long) sent.quantity * sent.price;
        return new long[] {billed, sent.trued, billed + sent.trued}[what];
    }

    long statement(int month, int what) {
        if (outside(month, 0, 35) || outside(what, 0, 3)) {
            throw new NoSuchElementException();
        }
        long[] billed = new long[36];
        long[] trued = new long[36];
        for (Sent sent : state.sent) {
            billed[sent.month] += (long) sent.quantity * sent.price;
            if (sent.settled != null) {
                trued[sent.settled] += sent.trued;
            }
        }
        if (what == 3) {
            return Arrays.stream(billed, 0, month + 1).sum() + Arrays.stream(trued, 0, month + 1).sum();
        }
        return (what != 1 ? billed[month] : 0) + (what != 0 ? trued[month] : 0);
    }

    private void keep() {
        undos.addLast(state.copy());
        if (undos.size() > 8) {
            undos.removeFirst();
        }
    }

    int publish(int index, int month, int v, boolean isFinal) {
        if (noIndex(index) || outside(month, 0, state.now) || outside(v, 1, 999)) {
            return -1;
        }
        Published there = state.indexes.get(index).get(month);
        if (there != null && there.isFinal) {
            return -2;
        }
        if (state.rebasings.get(index).stream().anyMatch(rebasing -> rebasing.month >= month)) {
            return -3;
        }
        keep();
        state.indexes.get(index).put(month, new Published(v, isFinal));
        return there == null ? 0 : there.value;
    }

    int rebase(int index, int month, int fresh) {
        if (noIndex(index) || outside(month, 0, state.now) || outside(fresh, 1, 999)) {
            return -1;
        }
        Published there = state.indexes.get(index).get(month);
        if (there == null || !there.isFinal) {
            return -2;
        }
        if (state.rebasings.get(index).stream().anyMatch(rebasing -> rebasing.month >= month)
            || state.indexes.get(index).higherKey(month) != null) {
            return -3;
        }
        if (state.rebasings.get(index).size() == 3) {
            return -4;
        }
        keep();
        state.rebasings.get(index).add(new Rebasing(month, there.value, fresh));
        return state.rebasings.get(index).size();
    }

    int deliver(int contract, int due, int quantity) {
        if (noDeal(contract) || outside(due, state.deals.get(contract).base, state.now) || outside(quantity, 1, 999)) {
            return -1;
        }
        if (state.sent.size() == 30) {
            return -2;
        }
        keep();
        Deal deal = state.deals.get(contract);
        int priced = state.now;
        if (due < state.now && figures(state, deal, due)[2] <= figures(state, deal, state.now)[2]) {
            priced = due;
        }
        state.sent.add(new Sent(contract, due, state.now, quantity, priced, figures(state, deal, priced)[2], null, 0));
        return state.sent.size() - 1;
    }

    int close() {
        if (state.now == 35) {
            return -1;
        }
        keep();
        int settled = 0;
        for (int number = 0; number < state.sent.size(); number++) {
            Sent sent = state.sent.get(number);
            if (sent.settled == null && waits(sent) == 0) {
                int price = figures(state, state.deals.get(sent.contract), sent.priced)[2];
                long trued = (long) sent.quantity * price - (long) sent.quantity * sent.price;
                state.sent.set(number, new Sent(sent.contract, sent.due, sent.month, sent.quantity, sent.priced,
                    sent.price, state.now, trued));
                settled++;
            }
        }
        state.now++;
        return settled;
    }

    int undo() {
        if (undos.isEmpty()) {
            return -1;
        }
        state = undos.removeLast();
        return undos.size();
    }
}
