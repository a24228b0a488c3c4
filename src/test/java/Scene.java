import java.util.ArrayList;
import java.util.Arrays;
import java.util.List;
import java.util.NoSuchElementException;

/**
 * A desk at some point of its life: what was told and done ahead. Each call that is tried comes to a new desk that was
 * brought there the same way, so that no check leans on another and no desk is used for more than 512 calls.
 */
final class Scene {
    interface Acts {
        void on(PriceDesk desk);
    }

    interface Call {
        long on(PriceDesk desk);
    }

    private record Question(String name, Call call) {
    }

    private static final long THROWN = Long.MIN_VALUE;
    private static final int ASKED_OF_ONE_DESK = 300;
    // One more than are kept: the last shows that nothing older comes back.
    private static final int UNDOS = 9;
    private static final List<Question> QUESTIONS = questions();

    private final Acts acts;
    private long[] viewAhead;

    Scene(String text) {
        this(desk -> Checks.tell(desk, text));
        Checks.due("no fault in " + text, Checks.tell(new PriceDesk(), text) >= 0, true);
    }

    Scene(Acts acts) {
        this.acts = acts;
    }

    static Scene ofNew() {
        return new Scene(desk -> { });
    }

    Scene then(Acts more) {
        return new Scene(joined(acts, more));
    }

    void answers(String name, long due, Call call) {
        Checks.due(name, answer(desk(acts), call), due);
    }

    void throwsNoSuchElement(String name, Call call) {
        refuses(name, THROWN, call);
    }

    /** The call answers so, and all that the desk tells then, and after undoing, is as without the call. */
    void refuses(String name, long due, Call call) {
        PriceDesk desk = desk(acts);
        int fault = desk.fault();
        Checks.due(name, answer(desk, call), due);
        Checks.due(name + " leaves fault()", desk.fault(), fault);
        dueSame(name, view(joined(acts, each -> answer(each, call))));
    }

    void leavesAll(String name, Call call) {
        refuses(name, answer(desk(acts), call), call);
    }

    /** A text with a fault: the tape is empty then, all else stays. */
    void refusesText(String text, int place, int kind) {
        PriceDesk desk = desk(acts);
        Checks.due("text() of " + text, Checks.tell(desk, text), -1 - place);
        Checks.due("fault() of " + text, desk.fault(), kind);
        Checks.due("now(6) behind " + text, desk.now(6), 0);
        dueSame("text() of " + text, view(joined(acts, each -> Checks.tell(each, text))));
    }

    /** A text whose fault is where the second part begins. */
    void refusesText(String ahead, String from, int kind) {
        refusesText(ahead + from, ahead.length(), kind);
    }

    /** The act and an undo behind it leave all as it was. */
    void takesBack(String name, long due, Call act) {
        answers(name, due, act);
        answers("undo() of " + name, desk(acts).now(5), desk -> {
            act.on(desk);
            return desk.undo();
        });
        dueSame("undo() of " + name, view(joined(acts, desk -> {
            act.on(desk);
            desk.undo();
        })));
    }

    void isLike(String name, Scene other) {
        dueSame(name, view(other.acts));
    }

    private void dueSame(String name, long[] behind) {
        if (viewAhead == null) {
            viewAhead = view(acts);
        }
        int differs = Arrays.mismatch(viewAhead, behind);
        Checks.due(name + " leaves all as it was; differs: " + asked(differs), differs, -1);
    }

    private static String asked(int differs) {
        int size = QUESTIONS.size();
        if (differs < 0 || differs >= size * (UNDOS + 2)) {
            return differs < 0 ? "nothing" : "text() of the tape";
        }
        return QUESTIONS.get(differs % size).name + " in part " + differs / size;
    }

    private static Acts joined(Acts first, Acts second) {
        return desk -> {
            first.on(desk);
            second.on(desk);
        };
    }

    private static PriceDesk desk(Acts acts) {
        PriceDesk desk = new PriceDesk();
        acts.on(desk);
        return desk;
    }

    private static long answer(PriceDesk desk, Call call) {
        try {
            return call.on(desk);
        } catch (NoSuchElementException e) {
            return THROWN;
        }
    }

    /** What is told as it is, after each undo that is left, and after the tape was read. */
    private static long[] view(Acts acts) {
        int size = QUESTIONS.size();
        long[] view = new long[size * (UNDOS + 2) + 2];
        Acts undone = acts;
        for (int part = 0; part <= UNDOS; part++) {
            ask(undone, view, size * part);
            undone = joined(undone, PriceDesk::undo);
        }
        ask(joined(acts, PriceDesk::text), view, size * (UNDOS + 1));
        PriceDesk desk = desk(acts);
        view[view.length - 2] = desk.text();
        view[view.length - 1] = desk.fault();
        return view;
    }

    private static void ask(Acts acts, long[] view, int from) {
        PriceDesk desk = null;
        for (int k = 0; k < QUESTIONS.size(); k++) {
            if (k % ASKED_OF_ONE_DESK == 0) {
                desk = desk(acts);
            }
            view[from + k] = answer(desk, QUESTIONS.get(k).call);
        }
    }

    private static List<Question> questions() {
        List<Question> asked = new ArrayList<>();
        for (int what = 0; what <= 6; what++) {
            int w = what;
            asked.add(new Question("now(" + w + ")", desk -> desk.now(w)));
        }
        for (int index = 0; index < 6; index++) {
            askOfIndex(asked, index);
        }
        for (int contract = 0; contract < 6; contract++) {
            askOfContract(asked, contract);
        }
        for (int delivery = 0; delivery < 30; delivery++) {
            askOfDelivery(asked, delivery);
        }
        for (int month = 0; month < 36; month++) {
            int m = month;
            asked.add(new Question("statement(" + m + ", 0)", desk -> desk.statement(m, 0)));
            asked.add(new Question("statement(" + m + ", 1)", desk -> desk.statement(m, 1)));
        }
        return asked;
    }

    private static void askOfIndex(List<Question> asked, int index) {
        for (int month = 0; month < 36; month++) {
            int m = month;
            asked.add(new Question("value(" + index + ", " + m + ", 0)", desk -> desk.value(index, m, 0)));
            asked.add(new Question("value(" + index + ", " + m + ", 1)", desk -> desk.value(index, m, 1)));
        }
        for (int k = 0; k < 9; k++) {
            int place = k;
            asked.add(new Question("rebased(" + index + ", " + k / 3 + ", " + k % 3 + ")",
                desk -> desk.rebased(index, place / 3, place % 3)));
        }
    }

    private static void askOfContract(List<Question> asked, int contract) {
        for (int what = 0; what <= 18; what++) {
            int w = what;
            asked.add(new Question("contract(" + contract + ", " + w + ")", desk -> desk.contract(contract, w)));
        }
        for (int month = 0; month < 36; month++) {
            int m = month;
            asked.add(new Question("price(" + contract + ", " + m + ", 2)", desk -> desk.price(contract, m, 2)));
        }
        asked.add(new Question("rises(" + contract + ", 0)", desk -> desk.rises(contract, 0)));
    }

    private static void askOfDelivery(List<Question> asked, int delivery) {
        for (int what = 0; what <= 8; what++) {
            int w = what;
            asked.add(new Question("delivery(" + delivery + ", " + w + ")", desk -> desk.delivery(delivery, w)));
        }
        asked.add(new Question("amount(" + delivery + ", 1)", desk -> desk.amount(delivery, 1)));
    }
}
