/** What the document says of all calls: how many are promised, which exception goes first, and what a refused one changes. */
public final class TermsBoundariesTest {
    private static final Scene NEW = Scene.after();
    private static final Scene SMALL = Scene.after("addRow 3 10 7", "addRow 1 20 9");
    private static final Scene TWELVE_ROWS = Scene.after(Scene.times(12, "addRow 2 5 5"));
    /** Ticket 1 is a hold that has been extended twice, 2 a booking, 3 released, 4 run out. */
    private static final Scene TICKETS = Scene.after("addRow 9 10 7", "addRow 3 10 9", "hold 2 9", "hold 1 9", "pay 2",
        "hold 1 9", "cancel 3", "hold 1 1", "pass 1", "extend 1 9", "extend 1 9");
    private static final Scene HUNDRED = Scene.after(Scene.times(6, "addRow 20 5 5"), Scene.times(100, "hold 1 200"));
    private static final int[] BAD_ROWS = {-1, 2, Scene.LEAST, Scene.MOST};
    private static final int[] BAD_SEATS = {0, 21, Scene.LEAST, Scene.MOST};
    private static final int[] BAD_MINUTES = {0, 201, Scene.LEAST, Scene.MOST};
    private static final int[] BAD_PEOPLE = {1, 101, Scene.LEAST, Scene.MOST};

    public static void main(String[] args) {
        lastPromisedCallAsks();
        lastPromisedCallHolds();
        lastPromisedCallIsRefused();
        lastMinuteThereCanBe();
        argumentBeforeStateInAddRow();
        argumentBeforeStateInBlocks();
        argumentBeforeStateInHold();
        indexBeforeArgumentInHoldAt();
        indexBeforeStateInHoldAt();
        argumentBeforeStateInHoldAt();
        argumentBeforeStateInGroups();
        indexBeforeArgumentInSeatsForGroup();
        indexBeforeStateInSeatsForGroup();
        indexBeforeArgumentInExtend();
        argumentBeforeStateInExtend();
        indexBeforeStateInWish();
        refusedTwiceInARow();
        Check.end("TermsBoundariesTest");
    }

    // ---- "An object is used for at most 512 calls after it has been made"

    private static void lastPromisedCallAsks() {
        Scene.after("addRow 2 5 5", Scene.times(510, "toggleBlocked 0 1")).answers(0, "state 0 1");
        Scene.after("addRow 2 5 5", Scene.times(509, "toggleBlocked 0 1")).answers(3, "pass 1; state 0 1");
        Scene.after("addRow 1 5 5", Scene.times(100, "hold 1 1; cancel 1").replace("cancel 1", "pass 1"),
            Scene.times(310, "pass 1")).answers(410, "now");
    }

    private static void lastPromisedCallHolds() {
        Scene.after("addRow 20 5 5", Scene.times(510, "pass 1000")).answers(1, "hold 20 200");
        Scene.after("addRow 20 5 5", Scene.times(509, "pass 1000"), "hold 20 200").answers(509200, "nextExpiry");
        Scene.after("addRow 20 5 5", Scene.times(509, "pass 1000"), "hold 20 200").answers(1, "pass 200");
        Scene.after(Scene.times(12, "addRow 20 5 5"), Scene.times(499, "pass 1")).answers(1, "holdGroup 100 200");
    }

    private static void lastPromisedCallIsRefused() {
        Scene.after(Scene.times(12, "addRow 20 5 5"), Scene.times(499, "pass 1")).answers(Scene.NOT_NOW, "addRow 1 1 1");
        Scene.after(Scene.times(511, "pass 1")).answers(Scene.NO_SUCH, "ticketState 1");
        Scene.after(Scene.times(511, "pass 1")).answers(Scene.OUT_OF_RANGE, "pass 1001");
    }

    /** The clock of 512 calls stays far below a wrap-around. */
    private static void lastMinuteThereCanBe() {
        Scene.after(Scene.times(511, "pass 1000")).answers(511000, "now");
        Scene.after(Scene.times(510, "pass 1000")).answers(511000, "pass 1000; now");
    }

    // ---- "If several apply, IndexOutOfBoundsException goes first, then IllegalArgumentException."

    private static void argumentBeforeStateInAddRow() {
        TWELVE_ROWS.due(Scene.NOT_NOW, "addRow 1 0 0");
        TWELVE_ROWS.due(Scene.OUT_OF_RANGE, Scene.each("addRow # 5 5", BAD_SEATS));
        TWELVE_ROWS.due(Scene.OUT_OF_RANGE, Scene.each("addRow 5 # 5", -1, 1001, Scene.LEAST, Scene.MOST));
        TWELVE_ROWS.due(Scene.OUT_OF_RANGE, Scene.each("addRow 5 5 #", -1, 10001, Scene.LEAST, Scene.MOST));
    }

    private static void argumentBeforeStateInBlocks() {
        NEW.due(Scene.NOT_NOW, "bestBlock 1", "leavesOrphan 20");
        NEW.due(Scene.OUT_OF_RANGE, Scene.each("bestBlock #", BAD_SEATS));
        NEW.due(Scene.OUT_OF_RANGE, Scene.each("leavesOrphan #", BAD_SEATS));
        SMALL.due(Scene.NOT_NOW, "bestBlock 20", "leavesOrphan 4");
        SMALL.due(Scene.OUT_OF_RANGE, "bestBlock 21", "leavesOrphan 21");
    }

    private static void argumentBeforeStateInHold() {
        for (Scene scene : new Scene[] {NEW, HUNDRED}) {
            scene.due(Scene.NOT_NOW, "hold 1 1", "hold 20 200");
            scene.due(Scene.OUT_OF_RANGE, Scene.each("hold # 9", BAD_SEATS));
            scene.due(Scene.OUT_OF_RANGE, Scene.each("hold 1 #", BAD_MINUTES));
            scene.due(Scene.OUT_OF_RANGE, "hold 0 0", "hold 21 201");
        }
        SMALL.due(Scene.OUT_OF_RANGE, "hold 4 201", "hold 20 0");
    }

    private static void indexBeforeArgumentInHoldAt() {
        for (int seats : BAD_SEATS) {
            SMALL.due(Scene.NO_SUCH, Scene.each("holdAt # 0 " + seats + " 9", BAD_ROWS));
            SMALL.due(Scene.NO_SUCH, Scene.each("holdAt 1 # " + seats + " 9", -1, 1, Scene.LEAST, Scene.MOST));
        }
        for (int minutes : BAD_MINUTES) {
            SMALL.due(Scene.NO_SUCH, Scene.each("holdAt # 0 1 " + minutes, BAD_ROWS));
            SMALL.due(Scene.NO_SUCH, Scene.each("holdAt 1 # 1 " + minutes, -1, 1, Scene.LEAST, Scene.MOST));
        }
    }

    private static void indexBeforeStateInHoldAt() {
        HUNDRED.due(Scene.NO_SUCH, "holdAt 6 0 1 9", "holdAt -1 0 1 9", "holdAt 5 20 1 9", "holdAt 5 -1 1 9");
        SMALL.due(Scene.NO_SUCH, "holdAt 1 1 20 9", "holdAt 2 0 20 9");
        HUNDRED.due(Scene.NO_SUCH, "holdAt 6 0 0 0", "holdAt 5 20 21 201");
    }

    private static void argumentBeforeStateInHoldAt() {
        HUNDRED.due(Scene.OUT_OF_RANGE, Scene.each("holdAt 5 0 # 9", BAD_SEATS));
        HUNDRED.due(Scene.OUT_OF_RANGE, Scene.each("holdAt 5 0 1 #", BAD_MINUTES));
        SMALL.and("holdAt 0 0 1 9").due(Scene.OUT_OF_RANGE, "holdAt 0 0 1 0", "holdAt 0 0 1 201", "holdAt 0 0 0 9",
            "holdAt 0 0 21 9", "holdAt 1 0 21 9", "holdAt 1 0 2 201");
    }

    private static void argumentBeforeStateInGroups() {
        for (Scene scene : new Scene[] {NEW, HUNDRED}) {
            scene.due(Scene.NOT_NOW, "holdGroup 2 1", "holdGroup 100 200");
            scene.due(Scene.OUT_OF_RANGE, Scene.each("holdGroup # 9", BAD_PEOPLE));
            scene.due(Scene.OUT_OF_RANGE, Scene.each("holdGroup 2 #", BAD_MINUTES));
        }
        NEW.due(Scene.OUT_OF_RANGE, Scene.each("rowsForGroup #", BAD_PEOPLE));
        SMALL.and("holdAt 0 0 3 9").due(Scene.OUT_OF_RANGE, Scene.each("seatsForGroup # 0", BAD_PEOPLE));
        SMALL.and("holdAt 0 0 3 9").due(Scene.NOT_NOW, "seatsForGroup 2 0", "seatsForGroup 100 1");
    }

    private static void indexBeforeArgumentInSeatsForGroup() {
        for (int people : BAD_PEOPLE) {
            SMALL.due(Scene.NO_SUCH, Scene.each("seatsForGroup " + people + " #", BAD_ROWS));
        }
    }

    private static void indexBeforeStateInSeatsForGroup() {
        SMALL.due(Scene.NO_SUCH, Scene.each("seatsForGroup 100 #", BAD_ROWS));
        NEW.due(Scene.NO_SUCH, "seatsForGroup 2 0", "seatsForGroup 1 0");
    }

    private static void indexBeforeArgumentInExtend() {
        for (int minutes : BAD_MINUTES) {
            TICKETS.due(Scene.NO_SUCH, Scene.each("extend # " + minutes, 0, 5, -1, Scene.LEAST, Scene.MOST));
        }
    }

    private static void argumentBeforeStateInExtend() {
        for (int ticket = 1; ticket <= 4; ticket++) {
            TICKETS.due(Scene.OUT_OF_RANGE, Scene.each("extend " + ticket + " #", BAD_MINUTES));
            TICKETS.due(Scene.NOT_NOW, "extend " + ticket + " 1", "extend " + ticket + " 200");
        }
    }

    private static void indexBeforeStateInWish() {
        for (int ticket : new int[] {1, 3, 4}) {
            TICKETS.due(Scene.NO_SUCH, Scene.each("wish " + ticket + " #", BAD_ROWS));
            TICKETS.due(Scene.NOT_NOW, "wish " + ticket + " 0", "wish " + ticket + " 1");
        }
        TICKETS.due(Scene.NO_SUCH, Scene.each("wish # 0", 0, 5, -1, Scene.LEAST, Scene.MOST));
        TICKETS.due(Scene.NO_SUCH, Scene.each("wish 5 #", BAD_ROWS));
    }

    // ---- "A call that throws an exception changes nothing.": RefusalsTest has more of it

    private static void refusedTwiceInARow() {
        BoxofficeRow x = new BoxofficeRow();
        x.addRow(4, 10, 7);
        x.hold(2, 9);
        for (int time = 0; time < 3; time++) {
            Check.notNow("no block", () -> x.hold(3, 9));
            Check.outOfRange("no minutes", () -> x.extend(1, 201));
            Check.noSuch("no ticket", () -> x.pay(2));
            Check.notNow("no booking", () -> x.wish(1, 0));
            Check.notNow("no wish", () -> x.exchange(1));
            Check.outOfRange("no time", () -> x.pass(1001));
        }
        Check.due("one ticket", 1, () -> x.tickets());
        Check.due("its end", 9, () -> x.nextExpiry());
        Check.due("extended once", 5, () -> x.extend(1, 5));
        Check.due("extended twice", 6, () -> x.extend(1, 6));
        Check.notNow("not thrice", () -> x.extend(1, 7));
        Check.due("its end", 6, () -> x.nextExpiry());
        Check.due("its price", 14, () -> x.pay(1));
    }
}
