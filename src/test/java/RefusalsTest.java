import java.util.ArrayList;
import java.util.List;

/**
 * "A call that throws an exception changes nothing.": every call with numbers at and beyond every boundary, on halls
 * in which much has happened. The answer is held against PlainOffice, and what stands after a refused call, or after
 * one that only asks, against what stood before it.
 */
public final class RefusalsTest {
    private static final String[] SCENES = {
        "",
        "addRow 1 0 0",
        "addRow 3 10 7; addRow 1 20 9; holdAt 0 0 2 9; holdAt 0 2 1 9; pay 2; toggleBlocked 1 0",
        "addRow 5 10 7; addRow 4 12 9; addRow 6 3 20; toggleBlocked 0 0; hold 2 30; pay 1; hold 1 5; extend 2 6; pass 3;"
            + " extend 2 7; hold 2 1; pass 1; hold 1 9; cancel 4; holdAt 2 0 1 40; pay 5; wish 5 0; wish 1 2; holdGroup 7 50",
        "addRow 2 50 1; addRow 2 50 10; addRow 4 50 100; holdAt 0 0 2 9; pay 1; wish 1 1; holdAt 1 0 2 9; pay 2;"
            + " wish 2 0; holdAt 2 0 2 9; pay 3; wish 3 0; holdAt 2 2 2 9",
        "addRow 2 50 1; addRow 2 50 10; addRow 2 50 100; holdAt 0 0 2 9; pay 1; wish 1 1; holdAt 1 0 2 9; pay 2;"
            + " wish 2 2; exchange 1; wish 2 0; wish 1 2; holdAt 0 0 1 3; pass 3; cancel 1",
    };
    private static final int[] SCORES = {-1, 0, 1000, 1001};
    private static final int[] PRICES = {-1, 0, 10000, 10001};
    private static final int[] SEATS_OF_BLOCK = {Scene.LEAST, -1, 0, 1, 2, 3, 20, 21, Scene.MOST};
    private static final int[] MINUTES = {Scene.LEAST, -1, 0, 1, 200, 201, Scene.MOST};
    private static final int[] TIME = {Scene.LEAST, -1, 0, 1, 1000, 1001, Scene.MOST};
    private static final int[] PEOPLE = {Scene.LEAST, 1, 2, 3, 8, 100, 101, Scene.MOST};
    private static final int[] ROWS = {Scene.LEAST, -1, 0, 1, 2, 3, 12, Scene.MOST};
    private static final int[] SEATS = {Scene.LEAST, -1, 0, 1, 2, 5, 6, 20, Scene.MOST};
    private static final int[] TICKETS = {Scene.LEAST, -1, 0, 1, 2, 3, 4, 5, 6, 7, 100, 101, Scene.MOST};

    public static void main(String[] args) {
        List<String> asks = asks();
        List<String> changes = changes();
        for (String told : SCENES) {
            Scene scene = Scene.after(told);
            for (String call : asks) {
                scene.asPlain(call, true);
            }
            for (String call : changes) {
                scene.asPlain(call, false);
            }
        }
        largest();
        Check.end("RefusalsTest");
    }

    private static List<String> asks() {
        List<String> all = new ArrayList<>(List.of("rows", "orphans", "longestBlock", "tickets", "takings", "now", "nextExpiry"));
        add(all, "state", ROWS, SEATS);
        add(all, "ticketAt", ROWS, SEATS);
        add(all, "value", ROWS, SEATS);
        add(all, "freeSeats", ROWS);
        add(all, "bestBlock", SEATS_OF_BLOCK);
        add(all, "leavesOrphan", SEATS_OF_BLOCK);
        add(all, "rowsForGroup", PEOPLE);
        add(all, "seatsForGroup", PEOPLE, ROWS);
        add(all, "ticketState", TICKETS);
        add(all, "seatsOf", TICKETS);
        add(all, "priceOf", TICKETS);
        return all;
    }

    private static List<String> changes() {
        List<String> all = new ArrayList<>();
        add(all, "addRow", SEATS_OF_BLOCK, SCORES, PRICES);
        add(all, "toggleBlocked", ROWS, SEATS);
        add(all, "hold", SEATS_OF_BLOCK, MINUTES);
        add(all, "holdAt", ROWS, SEATS, new int[] {0, 1, 3, 21}, new int[] {0, 200});
        add(all, "holdGroup", PEOPLE, MINUTES);
        add(all, "extend", TICKETS, MINUTES);
        add(all, "pay", TICKETS);
        add(all, "cancel", TICKETS);
        add(all, "pass", TIME);
        add(all, "wish", TICKETS, ROWS);
        add(all, "exchange", TICKETS);
        return all;
    }

    /** The call with every mixture of the numbers. */
    private static void add(List<String> all, String call, int[]... numbers) {
        List<String> calls = List.of(call);
        for (int[] some : numbers) {
            List<String> longer = new ArrayList<>();
            for (String start : calls) {
                longer.addAll(List.of(Scene.each(start + " #", some)));
            }
            calls = longer;
        }
        all.addAll(calls);
    }

    /** Twelve rows and a hundred tickets, which are all there can be. */
    private static void largest() {
        StringBuilder calls = new StringBuilder(Scene.times(12, "addRow 20 5 5"));
        for (int ticket = 1; ticket <= 100; ticket++) {
            calls.append("; holdAt ").append(ticket % 12).append(' ').append(ticket / 12).append(" 1 200");
            calls.append(ticket % 3 == 0 ? "; pay " + ticket + "; wish " + ticket + " " + (ticket + 1) % 12 : "");
        }
        Scene scene = Scene.after(calls.toString());
        for (String call : new String[] {"addRow 1 0 0", "hold 1 1", "hold 20 200", "holdAt 11 19 1 1", "holdGroup 2 1",
            "holdGroup 100 200", "toggleBlocked 0 1", "toggleBlocked 4 8", "extend 100 0", "extend 101 1", "extend 99 1",
            "pay 99", "pay 101", "cancel 0", "cancel 101", "pass 0", "pass 1001", "wish 100 1", "wish 99 3", "wish 99 12",
            "exchange 100", "exchange 101", "state 12 0", "state 11 20", "bestBlock 21", "rowsForGroup 101"}) {
            Check.due("largest: " + call + " is refused", true, () -> scene.refuses(call));
            scene.asPlain(call, false);
        }
    }
}
