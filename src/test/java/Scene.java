import java.util.ArrayList;
import java.util.List;
import java.util.StringJoiner;

/**
 * What some calls on a new object lead to. It is made anew for each question, so that no question spoils
 * another and none stands beyond the last call for which the document promises an answer.
 */
final class Scene {
    static final String NO_SUCH = "throws.IndexOutOfBoundsException";
    static final String OUT_OF_RANGE = "throws.IllegalArgumentException";
    static final String NOT_NOW = "throws.IllegalStateException";
    static final int LEAST = Integer.MIN_VALUE;
    static final int MOST = Integer.MAX_VALUE;

    private static final int PROMISED_CALLS = 512;
    private static final int[] SOME_PEOPLE = {2, 3, 4, 5, 7, 10, 13, 20, 21, 40, 99, 100};
    private static final int[] SOME_MINUTES = {1, 2, 3, 5, 10, 20, 50, 100, 199, 200, 201, 1000};

    private final String told;
    private final List<Step> setting;
    private List<List<Step>> looks;
    private List<String> seen;

    private Scene(String told) {
        this.told = told;
        setting = Step.read(told);
    }

    static Scene after(String... calls) {
        return new Scene(String.join("; ", calls));
    }

    Scene and(String... calls) {
        return after(told, String.join("; ", calls));
    }

    static String times(int count, String call) {
        return "; ".concat(call).repeat(count);
    }

    /** The calls with each of the numbers, all of them in one text. */
    static String forEach(String calls, int... numbers) {
        return String.join("; ", each(calls, numbers));
    }

    /** The call with each of the numbers in the place of the sign #. */
    static String[] each(String call, int... numbers) {
        String[] calls = new String[numbers.length];
        for (int at = 0; at < numbers.length; at++) {
            calls[at] = call.replace("#", String.valueOf(numbers[at]));
        }
        return calls;
    }

    static int[] from(int least, int most) {
        int[] numbers = new int[most - least + 1];
        for (int at = 0; at < numbers.length; at++) {
            numbers[at] = least + at;
        }
        return numbers;
    }

    /** Each of the texts, alone, has this answer to its last call; a refused one leaves everything as it stands. */
    void due(Object want, String... calls) {
        for (String call : calls) {
            answers(want, call);
            if (want.toString().startsWith("throws.")) {
                int last = call.lastIndexOf(';');
                Scene before = last < 0 ? this : and(call.substring(0, last));
                before.changesNothing(call.substring(last + 1));
            }
        }
    }

    /** The same without a look at what stands, for scenes that have no call left for it. */
    void answers(Object want, String calls) {
        List<Step> steps = Step.read(calls);
        Check.same(told + " | " + calls, want.toString(), last(new BoxofficeRow(), steps));
        Check.same("PlainOffice: " + told + " | " + calls, want.toString(), last(new PlainOffice(), steps));
    }

    /** The call has the answer of PlainOffice; one that is refused or only asks leaves everything as it stands. */
    void asPlain(String call, boolean onlyAsks) {
        List<Step> steps = Step.read(call);
        String want = last(new PlainOffice(), steps);
        Check.same(told + " | " + call, want, last(new BoxofficeRow(), steps));
        if (onlyAsks || want.startsWith("throws.")) {
            changesNothing(call);
        }
    }

    boolean refuses(String call) {
        return last(new BoxofficeRow(), Step.read(call)).startsWith("throws.");
    }

    private String last(Object office, List<Step> steps) {
        if (setting.size() + steps.size() > PROMISED_CALLS) {
            return "beyond the last promised call";
        }
        prepare(office);
        for (Step step : steps.subList(0, steps.size() - 1)) {
            needGranted(step.on(office));
        }
        return steps.get(steps.size() - 1).on(office);
    }

    private void prepare(Object office) {
        for (Step step : setting) {
            needGranted(step.on(office));
        }
    }

    private void needGranted(String answer) {
        if (answer.startsWith("throws.")) {
            Check.same(told + " is a setting without a refused call", "", answer);
        }
    }

    private void changesNothing(String call) {
        if (seen == null) {
            looks = allLooks();
            seen = lookAll("");
        }
        List<String> after = lookAll(call);
        int look = 0;
        while (look + 1 < seen.size() && seen.get(look).equals(after.get(look))) {
            look++;
        }
        Check.same(told + " | a look after " + call, seen.get(look), after.get(look));
    }

    private List<String> lookAll(String call) {
        List<String> all = new ArrayList<>();
        for (List<Step> look : looks) {
            BoxofficeRow office = new BoxofficeRow();
            prepare(office);
            for (Step step : Step.read(call)) {
                step.on(office);
            }
            StringJoiner answers = new StringJoiner(" ");
            for (Step step : look) {
                answers.add(step.on(office));
            }
            all.add(setting.size() + look.size() < PROMISED_CALLS ? answers.toString() : "beyond the last promised call");
        }
        return all;
    }

    /** What can be learnt of the object, also what only a later change tells: wishes, extensions, ends, what was paid. */
    private List<List<Step>> allLooks() {
        BoxofficeRow office = new BoxofficeRow();
        prepare(office);
        int rows = office.rows();
        int tickets = office.tickets();
        List<String> all = new ArrayList<>();
        all.add("rows; orphans; longestBlock; tickets; takings; now; nextExpiry");
        all.add(forEach("bestBlock #; leavesOrphan #", from(0, 21)));
        all.add(forEach("rowsForGroup #", SOME_PEOPLE));
        all.add("addRow 1 0 0; rows; freeSeats " + rows + "; value " + rows + " 0");
        all.addAll(List.of(each("hold # 7; nextExpiry; bestBlock 1; orphans", 1, 2, 3, 20)));
        all.addAll(List.of(each("holdGroup # 7; nextExpiry; bestBlock 1; orphans", SOME_PEOPLE)));
        for (int minutes : SOME_MINUTES) {
            all.add("pass " + minutes + "; now; nextExpiry; " + forEach("ticketState #", from(1, tickets)));
        }
        for (int row = 0; row < rows; row++) {
            addRowLooks(all, row);
        }
        for (int ticket = 1; ticket <= tickets; ticket++) {
            addTicketLooks(all, ticket, rows);
        }
        return all.stream().map(Step::read).toList();
    }

    private static void addRowLooks(List<String> all, int row) {
        String seat = row + " #";
        all.add(forEach("state " + seat + "; ticketAt " + seat + "; value " + seat, from(0, 20)));
        all.add(forEach("toggleBlocked " + seat, from(0, 20)) + "; freeSeats " + row);
        all.add("freeSeats " + row + "; " + forEach("seatsForGroup # " + row, SOME_PEOPLE));
    }

    private static void addTicketLooks(List<String> all, int ticket, int rows) {
        String it = " " + ticket;
        all.add("ticketState" + it + "; seatsOf" + it + "; priceOf" + it + "; exchange" + it + "; priceOf" + it
            + "; orphans; " + forEach("ticketAt # 0; ticketAt # 1; ticketAt # 2; freeSeats #", from(0, rows - 1)));
        all.add(times(3, "extend" + it + " 3; nextExpiry"));
        all.add("pay" + it + "; takings; cancel" + it + "; takings");
        all.add("cancel" + it + "; takings; orphans; longestBlock");
        all.add(forEach("wish" + it + " #", from(0, rows - 1)));
    }
}
