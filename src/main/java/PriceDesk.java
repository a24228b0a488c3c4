import java.util.NoSuchElementException;

public final class PriceDesk {
    public static final int NONE = -1;

    private static final int NEVER = -2;

    private static final int FINAL_ALREADY = -2;
    private static final int NOT_FINAL = -2;
    private static final int DESK_FULL = -2;
    private static final int REBASED_LATER = -3;
    private static final int NOT_LATER = -3;
    private static final int TOO_OFTEN = -4;

    private static final int MONTHS = 36;
    private static final int MOST_INDEXES = 6;
    private static final int MOST_CONTRACTS = 6;
    private static final int MOST_REBASINGS = 3;
    private static final int MOST_DELIVERIES = 30;
    private static final int MOST_KEPT = 8;
    private static final int MOST_VALUE = 999;
    private static final int MOST_TAPE = 740;
    private static final int MOST_TEXT = 700;
    private static final int FED_BYTES = 20;

    private static final int MILLION = 1000000;
    private static final int MOST_RATIO = 99999999;

    private static final int NO_VALUE = 0;
    private static final int PROVISIONAL = 1;
    private static final int FINAL = 2;

    private static final int ACT_PUBLISH = 0;
    private static final int ACT_REBASE = 1;
    private static final int ACT_DELIVER = 2;
    private static final int ACT_CLOSE = 3;

    private final TextReader reader;
    private Book book;
    private final Ledger ledger;
    private final History history;

    public PriceDesk() {
        reader = new TextReader();
        book = new Book();
        ledger = new Ledger();
        history = new History();
    }

    public int feed(int a, int b, int c, int d, int e) {
        Tape tape = reader.tape;
        if (tape.length + FED_BYTES > MOST_TAPE) {
            return NONE;
        }
        tape.append(a);
        tape.append(b);
        tape.append(c);
        tape.append(d);
        tape.append(e);
        return tape.length;
    }

    public boolean end(int n) {
        if (n < 0 || n > reader.tape.length) {
            return false;
        }
        reader.tape.length = n;
        return true;
    }

    public int text() {
        int answer = reader.readText();
        reader.tape.length = 0;
        if (answer < 0) {
            return answer;
        }
        book = reader.exchangeBook(book);
        ledger.count = 0;
        history.forget();
        return answer;
    }

    public int fault() {
        return reader.faultKind;
    }

    public int now(int what) {
        switch (what) {
            case 0: return book.now;
            case 1: return book.indexCount;
            case 2: return book.contractCount;
            case 3: return ledger.count;
            case 4: return ledger.countSettled();
            case 5: return history.kept;
            case 6: return reader.tape.length;
            default: return NONE;
        }
    }

    public int value(int index, int month, int what) {
        Index row = book.indexAt(index);
        if (row == null || !isMonth(month)) {
            return NONE;
        }
        switch (what) {
            case 0: return row.valueAt(month);
            case 1: return row.kindAt(month);
            case 2: return row.valueAt(row.knownMonth(month));
            case 3: return row.knownMonth(month);
            default: return NONE;
        }
    }

    public int rebased(int index, int k, int what) {
        Index row = book.indexAt(index);
        if (row == null || !row.hasRebasing(k)) {
            return NONE;
        }
        switch (what) {
            case 0: return row.rebasedMonths[k];
            case 1: return row.oldNumbers[k];
            case 2: return row.newNumbers[k];
            default: return NONE;
        }
    }

    public int ratio(int index, int from, int to) throws NoSuchElementException {
        Index row = book.indexAt(index);
        if (row == null || from > to || !row.hasValue(from) || !row.hasValue(to)) {
            throw new NoSuchElementException();
        }
        return row.ratioBetween(from, to);
    }

    public int contract(int contract, int what) {
        Contract row = book.contractAt(contract);
        if (row == null) {
            return NONE;
        }
        switch (what) {
            case 0: return row.price;
            case 1: return row.fixed;
            case 2: return row.base;
            case 3: return row.limit;
            case 4: return row.part;
            case 5: return row.beyond ? 1 : 0;
            case 6: return row.terms;
            default: return row.termFigure(what - 7);
        }
    }

    public int price(int contract, int month, int what) throws NoSuchElementException {
        Contract row = book.contractAt(contract);
        if (row == null || !book.isPriced(row, month) || what < 0 || what > 2) {
            throw new NoSuchElementException();
        }
        int factor = book.factorOf(row, month);
        if (what == 0) {
            return factor;
        }
        int move = row.moveBy(factor);
        return what == 1 ? move : row.priceBy(move);
    }

    public int were(int contract, int index, int v) {
        Contract row = book.contractAt(contract);
        Index moved = book.indexAt(index);
        if (row == null || moved == null || !isValue(v)) {
            return NONE;
        }
        return book.priceWere(row, moved, v);
    }

    public int rises(int contract, int index) {
        Contract row = book.contractAt(contract);
        Index moved = book.indexAt(index);
        if (row == null || moved == null) {
            return NONE;
        }
        if (book.priceWere(row, moved, MOST_VALUE) <= row.price) {
            return NEVER;
        }
        // A price never falls as a value grows, so halving finds the least one; ten halvings reach any of 999.
        int least = 1;
        int enough = MOST_VALUE;
        for (int halving = 0; halving < 10 && least < enough; halving++) {
            int middle = (least + enough) / 2;
            if (book.priceWere(row, moved, middle) > row.price) {
                enough = middle;
            } else {
                least = middle + 1;
            }
        }
        return enough;
    }

    public int delivery(int delivery, int what) {
        Delivery row = ledger.rowAt(delivery);
        if (row == null) {
            return NONE;
        }
        switch (what) {
            case 0: return row.contract;
            case 1: return row.due;
            case 2: return row.month;
            case 3: return row.quantity;
            case 4: return row.pricedMonth;
            case 5: return row.price;
            case 6: return row.isSettled() ? 1 : 0;
            case 7: return row.settledMonth;
            case 8: return row.isSettled() ? 0 : book.waitsFor(row.contract, row.pricedMonth);
            default: return NONE;
        }
    }

    public long amount(int delivery, int what) throws NoSuchElementException {
        Delivery row = ledger.rowAt(delivery);
        if (row == null || what < 0 || what > 2) {
            throw new NoSuchElementException();
        }
        if (what == 0) {
            return row.billed();
        }
        return what == 1 ? row.trued : row.billed() + row.trued;
    }

    public long statement(int month, int what) throws NoSuchElementException {
        if (!isMonth(month) || what < 0 || what > 3) {
            throw new NoSuchElementException();
        }
        if (what == 0) {
            return ledger.billedFrom(month, month);
        }
        if (what == 1) {
            return ledger.truedFrom(month, month);
        }
        int first = what == 2 ? month : 0;
        return ledger.billedFrom(first, month) + ledger.truedFrom(first, month);
    }

    public int publish(int index, int month, int v, boolean isFinal) {
        Index row = book.indexAt(index);
        if (row == null || !book.isPast(month) || !isValue(v)) {
            return NONE;
        }
        int kind = row.kindAt(month);
        if (kind == FINAL) {
            return FINAL_ALREADY;
        }
        if (row.latestRebasing() >= month) {
            return REBASED_LATER;
        }
        int ahead = kind == NO_VALUE ? 0 : row.valueAt(month);
        history.keep(ACT_PUBLISH, index, month, ahead, kind);
        row.put(month, v, isFinal ? FINAL : PROVISIONAL);
        return ahead;
    }

    public int rebase(int index, int month, int fresh) {
        Index row = book.indexAt(index);
        if (row == null || !book.isPast(month) || !isValue(fresh)) {
            return NONE;
        }
        if (row.kindAt(month) != FINAL) {
            return NOT_FINAL;
        }
        if (row.latestRebasing() >= month || row.knownMonth(MONTHS - 1) > month) {
            return NOT_LATER;
        }
        if (row.rebasings >= MOST_REBASINGS) {
            return TOO_OFTEN;
        }
        row.addRebasing(month, fresh);
        history.keep(ACT_REBASE, index, month, 0, NO_VALUE);
        return row.rebasings;
    }

    public int deliver(int contract, int due, int quantity) {
        Contract row = book.contractAt(contract);
        if (row == null || !book.isPriced(row, due) || quantity < 1 || quantity > MOST_VALUE) {
            return NONE;
        }
        Delivery fresh = ledger.addRow();
        if (fresh == null) {
            return DESK_FULL;
        }
        fresh.take(contract, due, book.now, quantity);
        fresh.bill(book.priceFor(row, due), book.priceFor(row, book.now));
        history.keep(ACT_DELIVER, 0, 0, 0, NO_VALUE);
        return ledger.count - 1;
    }

    public int close() {
        if (book.now >= MONTHS - 1) {
            return NONE;
        }
        int settled = ledger.settle(book);
        book.now++;
        history.keep(ACT_CLOSE, 0, 0, 0, NO_VALUE);
        return settled;
    }

    public int undo() {
        int slot = history.takeLatest();
        if (slot < 0 || slot >= MOST_KEPT) {
            return NONE;
        }
        switch (history.acts[slot]) {
            case ACT_PUBLISH: takeBackValue(slot); break;
            case ACT_REBASE: takeBackRebasing(slot); break;
            case ACT_DELIVER: ledger.dropLatest(); break;
            default: takeBackClose(); break;
        }
        return history.kept;
    }

    private void takeBackValue(int slot) {
        Index row = book.indexAt(history.indexes[slot]);
        if (row != null) {
            row.put(history.months[slot], history.values[slot], history.kinds[slot]);
        }
    }

    private void takeBackRebasing(int slot) {
        Index row = book.indexAt(history.indexes[slot]);
        if (row != null && row.rebasings > 0) {
            row.rebasings--;
        }
    }

    private void takeBackClose() {
        if (book.now > 0) {
            book.now--;
            // Acts are undone latest first: all that is settled as this month ended was settled by this close.
            ledger.unsettle(book.now);
        }
    }

    private static boolean isMonth(int month) {
        return month >= 0 && month < MONTHS;
    }

    private static boolean isValue(int number) {
        return number >= 1 && number <= MOST_VALUE;
    }

    /** What is published of one index, and its rebasings. */
    private static final class Index {
        private final int[] values;
        private final int[] kinds;
        private final int[] rebasedMonths;
        private final int[] oldNumbers;
        private final int[] newNumbers;
        private int rebasings;

        Index() {
            values = new int[MONTHS];
            kinds = new int[MONTHS];
            rebasedMonths = new int[MOST_REBASINGS];
            oldNumbers = new int[MOST_REBASINGS];
            newNumbers = new int[MOST_REBASINGS];
        }

        void forget() {
            for (int month = 0; month < MONTHS; month++) {
                values[month] = 0;
                kinds[month] = NO_VALUE;
            }
            rebasings = 0;
        }

        void put(int month, int number, int kind) {
            if (isMonth(month)) {
                values[month] = number;
                kinds[month] = kind;
            }
        }

        int kindAt(int month) {
            return isMonth(month) ? kinds[month] : NO_VALUE;
        }

        boolean hasValue(int month) {
            return kindAt(month) != NO_VALUE;
        }

        int valueAt(int month) {
            return isMonth(month) && kinds[month] != NO_VALUE ? values[month] : NONE;
        }

        int knownMonth(int month) {
            for (int m = Math.min(month, MONTHS - 1); m >= 0; m--) {
                if (kinds[m] != NO_VALUE) {
                    return m;
                }
            }
            return NONE;
        }

        boolean hasRebasing(int k) {
            return k >= 0 && k < rebasings && k < MOST_REBASINGS;
        }

        int latestRebasing() {
            return hasRebasing(rebasings - 1) ? rebasedMonths[rebasings - 1] : NONE;
        }

        void addRebasing(int month, int fresh) {
            if (rebasings >= 0 && rebasings < MOST_REBASINGS) {
                rebasedMonths[rebasings] = month;
                oldNumbers[rebasings] = valueAt(month);
                newNumbers[rebasings] = fresh;
                rebasings++;
            }
        }

        int ratioBetween(int from, int to) {
            // 999 to the fourth times a million stays below the bound of a long.
            long above = valueAt(to);
            long below = valueAt(from);
            for (int k = 0; k < rebasings && k < MOST_REBASINGS; k++) {
                if (rebasedMonths[k] >= from && rebasedMonths[k] < to) {
                    above *= oldNumbers[k];
                    below *= newNumbers[k];
                }
            }
            if (above <= 0 || below <= 0) {
                return 0;
            }
            return (int) Math.min(above * MILLION / below, MOST_RATIO);
        }
    }

    /** What the text tells of one contract. */
    private static final class Contract {
        private int price;
        private int fixed;
        private int base;
        private int limit;
        private int part;
        private boolean beyond;
        private int terms;
        private final int[] weights;
        private final int[] indexes;

        Contract() {
            weights = new int[MOST_INDEXES];
            indexes = new int[MOST_INDEXES];
        }

        void addTerm(int weight, int index) {
            if (terms >= 0 && terms < MOST_INDEXES) {
                weights[terms] = weight;
                indexes[terms] = index;
                terms++;
            }
        }

        boolean usesIndex(int index) {
            for (int k = 0; k < terms && k < MOST_INDEXES; k++) {
                if (indexes[k] == index) {
                    return true;
                }
            }
            return false;
        }

        int thousandths() {
            int sum = fixed;
            for (int k = 0; k < terms && k < MOST_INDEXES; k++) {
                sum += weights[k];
            }
            return sum;
        }

        /** Weight and index of the terms by turns, as the face numbers them. */
        int termFigure(int place) {
            int k = place / 2;
            if (place < 0 || k >= terms || k >= MOST_INDEXES) {
                return NONE;
            }
            return place % 2 == 0 ? weights[k] : indexes[k];
        }

        int moveBy(int factor) {
            int change = factor - MILLION;
            int threshold = limit * 1000;
            if (Math.abs(change) <= threshold) {
                return 0;
            }
            if (beyond) {
                change += change < 0 ? threshold : -threshold;
            }
            return (int) ((long) change * part / 100);
        }

        int priceBy(int move) {
            return (int) (((long) price * (MILLION + move) + MILLION / 2) / MILLION);
        }
    }

    /** The month, the indexes and the contracts: what a text tells and what is published since. */
    private static final class Book {
        private int now;
        private int indexCount;
        private int contractCount;
        private final Index[] indexes;
        private final Contract[] contracts;

        Book() {
            indexes = new Index[MOST_INDEXES];
            for (int i = 0; i < MOST_INDEXES; i++) {
                indexes[i] = new Index();
            }
            contracts = new Contract[MOST_CONTRACTS];
            for (int i = 0; i < MOST_CONTRACTS; i++) {
                contracts[i] = new Contract();
            }
        }

        void forget() {
            now = 0;
            indexCount = 0;
            contractCount = 0;
        }

        Index addIndex() {
            if (indexCount < 0 || indexCount >= MOST_INDEXES) {
                return null;
            }
            Index fresh = indexes[indexCount];
            fresh.forget();
            indexCount++;
            return fresh;
        }

        Contract addContract() {
            if (contractCount < 0 || contractCount >= MOST_CONTRACTS) {
                return null;
            }
            Contract fresh = contracts[contractCount];
            fresh.terms = 0;
            contractCount++;
            return fresh;
        }

        Index indexAt(int index) {
            return index >= 0 && index < indexCount && index < MOST_INDEXES ? indexes[index] : null;
        }

        Contract contractAt(int contract) {
            return contract >= 0 && contract < contractCount && contract < MOST_CONTRACTS
                ? contracts[contract] : null;
        }

        boolean isPast(int month) {
            return month >= 0 && month <= now;
        }

        boolean isPriced(Contract row, int month) {
            return month >= row.base && month <= now;
        }

        int factorOf(Contract row, int month) {
            long sum = (long) row.fixed * MILLION;
            for (int k = 0; k < row.terms && k < MOST_INDEXES; k++) {
                Index index = indexAt(row.indexes[k]);
                if (index != null) {
                    sum += (long) row.weights[k] * index.ratioBetween(row.base, index.knownMonth(month));
                }
            }
            return (int) (sum / 1000);
        }

        int priceFor(Contract row, int month) {
            return row.priceBy(row.moveBy(factorOf(row, month)));
        }

        /** The supposed value stands in the index for the time of the reckoning alone. */
        int priceWere(Contract row, Index index, int supposed) {
            int kind = index.kindAt(now);
            int number = index.valueAt(now);
            index.put(now, supposed, FINAL);
            int price = priceFor(row, now);
            index.put(now, number, kind);
            return price;
        }

        /** A bit for each weighted index of the contract that has no final value of the month. */
        int waitsFor(int contract, int month) {
            Contract row = contractAt(contract);
            if (row == null) {
                return 0;
            }
            int bits = 0;
            for (int k = 0; k < row.terms && k < MOST_INDEXES; k++) {
                Index index = indexAt(row.indexes[k]);
                if (index != null && row.weights[k] > 0 && index.kindAt(month) != FINAL) {
                    bits |= 1 << row.indexes[k];
                }
            }
            return bits;
        }
    }

    /** One delivery; its settled month is NONE until it is settled. */
    private static final class Delivery {
        private int contract;
        private int due;
        private int month;
        private int quantity;
        private int pricedMonth;
        private int price;
        private int settledMonth;
        private long trued;

        void take(int ofContract, int dueMonth, int atMonth, int ofQuantity) {
            contract = ofContract;
            due = dueMonth;
            month = atMonth;
            quantity = ofQuantity;
            unsettle();
        }

        /** What is not late has one month and one price for both. */
        void bill(int duePrice, int monthPrice) {
            boolean byDue = duePrice <= monthPrice;
            pricedMonth = byDue ? due : month;
            price = byDue ? duePrice : monthPrice;
        }

        long billed() {
            return (long) quantity * price;
        }

        boolean isSettled() {
            return settledMonth != NONE;
        }

        void settle(int finalPrice, int atMonth) {
            trued = (long) quantity * finalPrice - billed();
            settledMonth = atMonth;
        }

        void unsettle() {
            trued = 0;
            settledMonth = NONE;
        }
    }

    /** All deliveries, by their numbers. */
    private static final class Ledger {
        private final Delivery[] rows;
        private int count;

        Ledger() {
            rows = new Delivery[MOST_DELIVERIES];
            for (int i = 0; i < MOST_DELIVERIES; i++) {
                rows[i] = new Delivery();
            }
        }

        Delivery rowAt(int delivery) {
            return delivery >= 0 && delivery < count && delivery < MOST_DELIVERIES ? rows[delivery] : null;
        }

        Delivery addRow() {
            if (count < 0 || count >= MOST_DELIVERIES) {
                return null;
            }
            count++;
            return rows[count - 1];
        }

        void dropLatest() {
            if (count > 0) {
                count--;
            }
        }

        int countSettled() {
            int settled = 0;
            for (int i = 0; i < count && i < MOST_DELIVERIES; i++) {
                if (rows[i].isSettled()) {
                    settled++;
                }
            }
            return settled;
        }

        int settle(Book book) {
            int settled = 0;
            for (int i = 0; i < count && i < MOST_DELIVERIES; i++) {
                Delivery row = rows[i];
                Contract contract = book.contractAt(row.contract);
                if (contract != null && !row.isSettled() && book.waitsFor(row.contract, row.pricedMonth) == 0) {
                    row.settle(book.priceFor(contract, row.pricedMonth), book.now);
                    settled++;
                }
            }
            return settled;
        }

        void unsettle(int month) {
            for (int i = 0; i < count && i < MOST_DELIVERIES; i++) {
                if (rows[i].settledMonth == month) {
                    rows[i].unsettle();
                }
            }
        }

        long billedFrom(int first, int last) {
            long sum = 0;
            for (int i = 0; i < count && i < MOST_DELIVERIES; i++) {
                if (rows[i].month >= first && rows[i].month <= last) {
                    sum += rows[i].billed();
                }
            }
            return sum;
        }

        long truedFrom(int first, int last) {
            long sum = 0;
            for (int i = 0; i < count && i < MOST_DELIVERIES; i++) {
                if (rows[i].settledMonth >= first && rows[i].settledMonth <= last) {
                    sum += rows[i].trued;
                }
            }
            return sum;
        }
    }

    /** The latest acts, a ring of rows; of a value that was published, what was there ahead. */
    private static final class History {
        private final int[] acts;
        private final int[] indexes;
        private final int[] months;
        private final int[] values;
        private final int[] kinds;
        private int next;
        private int kept;

        History() {
            acts = new int[MOST_KEPT];
            indexes = new int[MOST_KEPT];
            months = new int[MOST_KEPT];
            values = new int[MOST_KEPT];
            kinds = new int[MOST_KEPT];
        }

        void forget() {
            kept = 0;
        }

        void keep(int act, int index, int month, int number, int kind) {
            if (next < 0 || next >= MOST_KEPT) {
                return;
            }
            acts[next] = act;
            indexes[next] = index;
            months[next] = month;
            values[next] = number;
            kinds[next] = kind;
            next = (next + 1) % MOST_KEPT;
            kept = Math.min(kept + 1, MOST_KEPT);
        }

        int takeLatest() {
            if (kept <= 0) {
                return NONE;
            }
            next = (next + MOST_KEPT - 1) % MOST_KEPT;
            kept--;
            return next;
        }
    }

    /** The tape, and the token of it that is read just now. */
    private static final class Tape {
        private static final int WRONG = 0;
        private static final int WORD = 1;
        private static final int NUMBER = 2;
        private static final int SIGN = 3;
        private static final int END = 4;

        private final byte[] bytes;
        private int length;
        private int start;
        private int next;
        private int kind;
        private int number;

        Tape() {
            bytes = new byte[MOST_TAPE];
        }

        void append(int fourBytes) {
            for (int shift = 24; shift >= 0; shift -= 8) {
                if (length >= 0 && length < MOST_TAPE) {
                    bytes[length] = (byte) (fourBytes >> shift);
                    length++;
                }
            }
        }

        void begin() {
            next = 0;
            advance();
        }

        int byteAt(int place) {
            return place >= 0 && place < length && place < MOST_TAPE ? bytes[place] : 0;
        }

        void advance() {
            start = next;
            while (start < length && isBlank(byteAt(start))) {
                start++;
            }
            if (start >= MOST_TEXT && length > MOST_TEXT) {
                start = MOST_TEXT;
                kind = WRONG;
            } else if (start >= length) {
                kind = END;
            } else {
                cutToken();
            }
        }

        private void cutToken() {
            int sign = byteAt(start);
            next = start + 1;
            if (sign == ';' || sign == '=' || sign == '+') {
                kind = SIGN;
                return;
            }
            int letters = 0;
            int digits = 0;
            number = 0;
            for (int place = start; place < length; place++) {
                int part = byteAt(place);
                if (part >= 'a' && part <= 'z') {
                    letters++;
                } else if (part >= '0' && part <= '9') {
                    digits++;
                    number = number * 10 + part - '0';
                } else {
                    break;
                }
            }
            next = Math.max(next, start + letters + digits);
            boolean isWord = digits == 0 && letters >= 1 && letters <= 8;
            boolean isNumber = letters == 0 && digits >= 1 && digits <= 4;
            kind = isWord ? WORD : isNumber ? NUMBER : WRONG;
        }

        boolean isSign(char sign) {
            return kind == SIGN && byteAt(start) == sign;
        }

        boolean isWord(String word) {
            if (kind != WORD || next - start != word.length()) {
                return false;
            }
            for (int i = 0; i < word.length(); i++) {
                if (byteAt(start + i) != word.charAt(i)) {
                    return false;
                }
            }
            return true;
        }

        boolean isSameAs(int place, int size) {
            if (kind != WORD || next - start != size) {
                return false;
            }
            for (int i = 0; i < size; i++) {
                if (byteAt(start + i) != byteAt(place + i)) {
                    return false;
                }
            }
            return true;
        }

        private static boolean isBlank(int sign) {
            return sign == ' ' || sign == '\n';
        }
    }

    /**
     * Reads the text on the tape, token by token; stops at the first fault, which is at the latest token.
     * It reads into a book of its own, so that a fault leaves the desk as it was.
     */
    private static final class TextReader {
        private static final int CANT_COME = 1;
        private static final int WRONG_NUMBER = 2;
        private static final int WRONG_NAME = 3;
        private static final int ONE_MORE = 4;
        private static final int UNFIT = 5;

        // One of the month, and of each sort as many as may be told.
        private static final int MOST_LINES = 1 + MOST_INDEXES + MOST_CONTRACTS;
        private static final int WHOLE = 1000;

        private final Tape tape;
        private final int[] namePlaces;
        private final int[] nameSizes;
        private Book book;
        private int number;
        private int faultKind;

        TextReader() {
            tape = new Tape();
            book = new Book();
            namePlaces = new int[MOST_INDEXES];
            nameSizes = new int[MOST_INDEXES];
        }

        /** How many lines; with a fault -1 less its place. */
        int readText() {
            book.forget();
            faultKind = 0;
            tape.begin();
            for (int lines = 0; lines <= MOST_LINES; lines++) {
                if (tape.kind == Tape.END) {
                    return lines;
                }
                boolean isRead;
                if (lines == 0) {
                    isRead = readNow();
                } else if (tape.isWord("contract")) {
                    isRead = readContract();
                } else {
                    isRead = readIndex();
                }
                if (!isRead || !readSign(';')) {
                    break;
                }
            }
            return -1 - tape.start;
        }

        /** Hands over the book that was read; the next text is read into the other. */
        Book exchangeBook(Book other) {
            Book told = book;
            book = other;
            return told;
        }

        private boolean refuse(int kind) {
            faultKind = kind;
            return false;
        }

        private boolean readNow() {
            if (!readWord("month") || !readNumber(0, MONTHS - 1)) {
                return false;
            }
            book.now = number;
            return true;
        }

        private boolean readIndex() {
            if (!tape.isWord("index")) {
                return refuse(CANT_COME);
            }
            int fresh = book.indexCount;
            Index index = book.addIndex();
            if (index == null) {
                return refuse(ONE_MORE);
            }
            tape.advance();
            if (!isName()) {
                return refuse(CANT_COME);
            }
            if (indexNamed(fresh) != NONE) {
                return refuse(WRONG_NAME);
            }
            keepName(fresh);
            tape.advance();
            return readValues(index);
        }

        private boolean readValues(Index index) {
            for (int month = 0; month <= MONTHS && (month == 0 || tape.kind == Tape.NUMBER); month++) {
                // Of a value too many no number is as told.
                if (!readNumber(1, month <= book.now ? MOST_VALUE : 0)) {
                    return false;
                }
                index.put(month, number, FINAL);
            }
            return true;
        }

        private boolean readContract() {
            Contract contract = book.addContract();
            if (contract == null) {
                return refuse(ONE_MORE);
            }
            tape.advance();
            if (!readNumber(1, 9999)) {
                return false;
            }
            contract.price = number;
            if (!readSign('=') || !readNumber(0, WHOLE)) {
                return false;
            }
            contract.fixed = number;
            return readTerms(contract) && readBase(contract) && readRule(contract);
        }

        private boolean readTerms(Contract contract) {
            // An index comes once: the term behind the last that can be is refused.
            for (int k = 0; k <= MOST_INDEXES && tape.isSign('+'); k++) {
                tape.advance();
                if (!readNumber(0, WHOLE)) {
                    return false;
                }
                if (!isName()) {
                    return refuse(CANT_COME);
                }
                int index = indexNamed(book.indexCount);
                if (index == NONE || contract.usesIndex(index)) {
                    return refuse(WRONG_NAME);
                }
                contract.addTerm(number, index);
                tape.advance();
            }
            return true;
        }

        private boolean readBase(Contract contract) {
            if (!tape.isWord("base")) {
                return refuse(CANT_COME);
            }
            if (contract.thousandths() != WHOLE) {
                return refuse(UNFIT);
            }
            tape.advance();
            if (!isNumber(0, book.now)) {
                return false;
            }
            contract.base = tape.number;
            for (int k = 0; k < contract.terms && k < MOST_INDEXES; k++) {
                Index index = book.indexAt(contract.indexes[k]);
                if (index != null && !index.hasValue(contract.base)) {
                    return refuse(UNFIT);
                }
            }
            tape.advance();
            return true;
        }

        private boolean readRule(Contract contract) {
            contract.beyond = tape.isWord("beyond");
            if (!contract.beyond && !tape.isWord("all")) {
                return refuse(CANT_COME);
            }
            tape.advance();
            if (!readNumber(0, 999)) {
                return false;
            }
            contract.limit = number;
            if (!readWord("share") || !readNumber(0, 100)) {
                return false;
            }
            contract.part = number;
            return true;
        }

        private boolean readSign(char sign) {
            if (!tape.isSign(sign)) {
                return refuse(CANT_COME);
            }
            tape.advance();
            return true;
        }

        private boolean readWord(String word) {
            if (!tape.isWord(word)) {
                return refuse(CANT_COME);
            }
            tape.advance();
            return true;
        }

        private boolean readNumber(int least, int most) {
            if (!isNumber(least, most)) {
                return false;
            }
            number = tape.number;
            tape.advance();
            return true;
        }

        private boolean isNumber(int least, int most) {
            if (tape.kind != Tape.NUMBER) {
                return refuse(CANT_COME);
            }
            if (tape.number < least || tape.number > most) {
                return refuse(WRONG_NUMBER);
            }
            return true;
        }

        private boolean isName() {
            return tape.kind == Tape.WORD
                && !tape.isWord("month") && !tape.isWord("index") && !tape.isWord("contract")
                && !tape.isWord("base") && !tape.isWord("all") && !tape.isWord("beyond")
                && !tape.isWord("share");
        }

        private void keepName(int index) {
            if (index >= 0 && index < MOST_INDEXES) {
                namePlaces[index] = tape.start;
                nameSizes[index] = tape.next - tape.start;
            }
        }

        /** Which of the first indexes bears the name that the latest token is. */
        private int indexNamed(int indexes) {
            for (int i = 0; i < indexes && i < MOST_INDEXES; i++) {
                if (tape.isSameAs(namePlaces[i], nameSizes[i])) {
                    return i;
                }
            }
            return NONE;
        }
    }
}
