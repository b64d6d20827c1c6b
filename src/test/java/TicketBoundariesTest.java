/** Promises 18 to 28, and what "Terms" says of tickets: a method for each sentence that names a boundary case. */
public final class TicketBoundariesTest {
    private static final int[] NO_TICKET_OF_TWO = {0, 3, -1, 100, 101, Scene.LEAST, Scene.MOST};
    private static final int[] NO_MINUTES = {0, 201, -1, 1000, Scene.LEAST, Scene.MOST};
    private static final Scene NEW = Scene.after();
    private static final Scene ROW = Scene.after("addRow 3 10 7");
    /** Ticket 1 has two seats of row 0 for 10 minutes, ticket 2 has both seats of row 1 and one more for 20. */
    private static final Scene TWO = Scene.after("addRow 4 10 100", "addRow 3 10 7", "holdAt 0 0 2 10", "holdGroup 5 20");
    private static final Scene BOUGHT = TWO.and("pay 1", "pay 2");
    private static final Scene RELEASED = TWO.and("cancel 1", "cancel 2");
    private static final Scene CANCELLED = BOUGHT.and("cancel 1", "cancel 2");
    private static final Scene RAN_OUT = TWO.and("pass 20");
    private static final Scene LARGEST = Scene.after(Scene.times(12, "addRow 20 1000 10000"));
    private static final Scene HUNDRED = LARGEST.and(Scene.times(100, "hold 1 200"));

    public static void main(String[] args) {
        termsNumberedFrom1On();
        termsAtMostHundredInAll();
        termsRefusedRequestTakesNoNumber();
        termsRunsOutAtTPlusD();
        termsRunsOutAtTPlusDWhenMadeLater();
        termsRunsOutAtTPlusDWhenExtended();
        termsItsSeatsAreFreeAndTheTicketIsClosed();
        termsBookingDoesNotRunOut();
        termsReleasedOrCancelledIsClosed();
        termsClosedStaysClosed();
        promise18FromNoneToHundred();
        promise19EveryState();
        promise19NoSuchTicket();
        promise20FromOneToHundredSeats();
        promise20NoneIfClosed();
        promise20NoSuchTicket();
        promise21LeastAndGreatestPrice();
        promise21NoneIfClosed();
        promise21NoSuchTicket();
        promise22FromNowOn();
        promise22CanBeExtendedTwice();
        promise22NoSuchTicket();
        promise22Minutes1To200();
        promise22NoHold();
        promise23PriceOfItsSeats();
        promise23AtTheLastMinute();
        promise23NoSuchTicket();
        promise23NoHold();
        promise24PaidBack();
        promise24NoSuchTicket();
        promise24Closed();
        promise25PaidLessPaidBack();
        promise26Minute();
        promise27Minutes1To1000();
        promise27OnTheWay();
        promise27NoneToHundred();
        promise28NextHold();
        promise28NoHolds();
        Check.end("TicketBoundariesTest");
    }

    private static void noSuchTicket(String call) {
        TWO.due(Scene.NO_SUCH, Scene.each(call, NO_TICKET_OF_TWO));
        NEW.due(Scene.NO_SUCH, Scene.each(call, 0, 1));
        ROW.due(Scene.NO_SUCH, Scene.each(call, 0, 1));
        HUNDRED.due(Scene.NO_SUCH, Scene.each(call, 0, 101));
    }

    // ---- Terms

    /** "A ticket is a number, from 1 on, in the order in which requests are granted". */
    private static void termsNumberedFrom1On() {
        LARGEST.due(1, "hold 2 9", "holdAt 11 0 2 9", "holdGroup 30 9");
        LARGEST.due(3, "hold 2 9; holdAt 11 0 2 9; holdGroup 30 9", "holdGroup 30 9; holdAt 11 0 2 9; hold 2 9");
        LARGEST.due(2, "hold 2 9; cancel 1; hold 2 9", "hold 2 9; pass 9; hold 2 9", "hold 2 9; pay 1; cancel 1; hold 2 9");
    }

    /** "there are at most 100 in all". */
    private static void termsAtMostHundredInAll() {
        LARGEST.and(Scene.times(98, "hold 1 200")).due(99, "hold 1 200");
        LARGEST.and(Scene.times(99, "hold 1 200")).due(100, "hold 1 200", "hold 1 200; tickets");
        HUNDRED.due(Scene.NOT_NOW, "hold 1 200", "hold 20 1", "holdAt 11 19 1 1", "holdGroup 100 1", "holdGroup 2 200");
        HUNDRED.due(0, "ticketState 100", "ticketState 1");
    }

    private static void termsRefusedRequestTakesNoNumber() {
        BoxofficeRow x = new BoxofficeRow();
        x.addRow(3, 10, 7);
        Check.notNow("no block", () -> x.hold(4, 9));
        Check.outOfRange("no minutes", () -> x.hold(1, 0));
        Check.noSuch("no row", () -> x.holdAt(1, 0, 1, 9));
        Check.notNow("no block there", () -> x.holdAt(0, 2, 2, 9));
        Check.notNow("no split", () -> x.holdGroup(4, 9));
        Check.due("the first number is still free", 1, () -> x.hold(1, 9));
        Check.outOfRange("no people", () -> x.holdGroup(1, 9));
        Check.due("the second number is still free", 2, () -> x.hold(1, 9));
    }

    /** "one that is made ... at the minute t and lasts d minutes runs out at the minute t + d". */
    private static void termsRunsOutAtTPlusD() {
        for (String hold : new String[] {"hold 1 #", "holdAt 0 2 1 #", "holdGroup 2 #"}) {
            for (int minutes : new int[] {1, 2, 199, 200}) {
                Scene held = ROW.and(Scene.each(hold, minutes));
                held.due(minutes, "nextExpiry");
                held.due(1, "pass " + minutes, "pass 1000");
                held.due(2, "pass " + minutes + "; ticketState 1");
                if (minutes > 1) {
                    held.due(0, "pass " + (minutes - 1), "pass " + (minutes - 1) + "; ticketState 1");
                    held.due(1, "pass " + (minutes - 1) + "; pass 1");
                }
            }
        }
    }

    private static void termsRunsOutAtTPlusDWhenMadeLater() {
        Scene later = ROW.and("pass 1000", "pass 7", "hold 1 200");
        later.due(1207, "nextExpiry");
        later.due(0, "pass 199", "pass 199; ticketState 1");
        later.due(1, "pass 200", "pass 199; pass 1");
        ROW.and("pass 1", "hold 1 1").due(2, "nextExpiry", "pass 1; ticketState 1");
    }

    /** "or extended, at the minute t and lasts d minutes runs out at the minute t + d". */
    private static void termsRunsOutAtTPlusDWhenExtended() {
        Scene longer = ROW.and("hold 1 10", "pass 9", "extend 1 200");
        longer.due(209, "nextExpiry");
        longer.due(0, "pass 1", "pass 199", "pass 199; ticketState 1");
        longer.due(1, "pass 200", "pass 199; pass 1");
        Scene shorter = ROW.and("hold 1 200", "pass 9", "extend 1 1");
        shorter.due(10, "nextExpiry");
        shorter.due(1, "pass 1");
        shorter.due(2, "pass 1; ticketState 1");
    }

    /** "When the clock has come to that minute, the hold has run out: its seats are free and the ticket is closed." */
    private static void termsItsSeatsAreFreeAndTheTicketIsClosed() {
        Scene before = TWO.and("pass 9");
        before.due(1, "state 0 0", "ticketAt 0 0", "ticketAt 0 1");
        before.due(0, "ticketState 1");
        Scene after = TWO.and("pass 10");
        after.due(0, "state 0 0", "state 0 1", "ticketAt 0 0", "seatsOf 1", "priceOf 1", "ticketState 2", "takings");
        after.due(2, "ticketState 1", "ticketAt 0 2", "ticketAt 1 0", "longestBlock");
        after.due(3, "holdAt 0 0 2 9");
        after.due(true, "toggleBlocked 0 0");
        after.due(5, "seatsOf 2");
    }

    /** "A hold that is paid for becomes a booking, and its seats are sold." */
    private static void termsBookingDoesNotRunOut() {
        TWO.and("pay 1", "pay 2").due(0, "pass 20", "pass 1000");
        TWO.and("pay 1").due(1, "pass 20", "pass 20; ticketState 1");
        BOUGHT.due(2, "state 0 0", "pass 1000; state 0 0", "pass 1000; state 1 0", "pass 1000; ticketAt 1 0");
        BOUGHT.due(1, "pass 1000; ticketState 1", "pass 1000; ticketState 2");
        TWO.and("extend 1 9", "pay 1").due(0, "pass 9");
    }

    /** "A released hold or a cancelled booking is closed, and its seats are free." */
    private static void termsReleasedOrCancelledIsClosed() {
        for (Scene scene : new Scene[] {RELEASED, CANCELLED}) {
            scene.due(3, "ticketState 1", "ticketState 2", "longestBlock; toggleBlocked 0 3; longestBlock", "freeSeats 1");
            scene.due(4, "freeSeats 0");
            scene.due(0, "state 0 0", "state 0 1", "state 1 0", "ticketAt 0 0", "ticketAt 1 0", "seatsOf 1", "seatsOf 2",
                "priceOf 1", "priceOf 2", "takings", "pass 1000");
        }
        TWO.and("cancel 1").due(1, "state 0 2", "state 1 0");
    }

    /** "A closed ticket stays closed.": also when another one has its seats. */
    private static void termsClosedStaysClosed() {
        for (Scene scene : new Scene[] {RELEASED, CANCELLED, RAN_OUT}) {
            Scene again = scene.and("holdAt 0 0 4 50", "pay 3", "holdAt 1 0 3 50");
            int state = scene == RAN_OUT ? 2 : 3;
            again.due(state, "ticketState 1", "ticketState 2", "pass 1000; ticketState 1");
            again.due(0, "seatsOf 1", "priceOf 1", "seatsOf 2", "priceOf 2");
            again.due(Scene.NOT_NOW, "pay 1", "pay 2", "extend 1 9", "extend 2 9", "cancel 1", "cancel 2", "wish 1 1",
                "wish 2 0", "exchange 1", "exchange 2");
            again.due(3, "ticketAt 0 0", "ticketAt 0 3");
        }
    }

    // ---- 18: tickets

    private static void promise18FromNoneToHundred() {
        NEW.due(0, "tickets");
        ROW.due(0, "tickets");
        ROW.due(1, "hold 1 1; tickets", "hold 1 1; pass 1; tickets", "hold 1 1; cancel 1; tickets", "hold 1 1; pay 1; tickets");
        TWO.due(2, "tickets");
        HUNDRED.due(100, "tickets", "pass 1000; tickets", "cancel 100; tickets");
    }

    // ---- 19: ticketState

    /** "Returns 0 hold, 1 booking, 2 closed since the hold ran out, 3 closed otherwise." */
    private static void promise19EveryState() {
        TWO.due(0, "ticketState 1", "ticketState 2", "extend 1 200; pass 199; ticketState 1");
        TWO.due(1, "pay 1; ticketState 1", "pay 2; ticketState 2");
        TWO.due(2, "pass 10; ticketState 1", "pass 20; ticketState 2", "extend 1 1; pass 1; ticketState 1");
        TWO.due(3, "cancel 1; ticketState 1", "pay 1; cancel 1; ticketState 1", "cancel 1; pass 1000; ticketState 1");
        HUNDRED.due(0, "ticketState 1", "ticketState 100");
        HUNDRED.due(1, "pay 100; ticketState 100");
        HUNDRED.due(2, "pass 200; ticketState 100");
        HUNDRED.due(3, "cancel 100; ticketState 100");
    }

    private static void promise19NoSuchTicket() {
        noSuchTicket("ticketState #");
    }

    // ---- 20: seatsOf

    private static void promise20FromOneToHundredSeats() {
        LARGEST.due(1, "hold 1 9; seatsOf 1", "hold 1 9; pay 1; seatsOf 1");
        LARGEST.due(20, "hold 20 9; seatsOf 1", "holdAt 11 0 20 9; pay 1; seatsOf 1");
        LARGEST.due(100, "holdGroup 100 9; seatsOf 1", "holdGroup 100 9; pay 1; seatsOf 1");
        LARGEST.due(2, "holdGroup 2 9; seatsOf 1");
    }

    /** "Returns the number, 0 if it is closed." */
    private static void promise20NoneIfClosed() {
        for (Scene scene : new Scene[] {RELEASED, CANCELLED, RAN_OUT}) {
            scene.due(0, "seatsOf 1", "seatsOf 2");
        }
        TWO.and("pass 9").due(2, "seatsOf 1");
        TWO.and("pass 10").due(0, "seatsOf 1");
    }

    private static void promise20NoSuchTicket() {
        noSuchTicket("seatsOf #");
    }

    // ---- 21: priceOf

    private static void promise21LeastAndGreatestPrice() {
        Scene.after("addRow 20 5 0").due(0, "hold 20 9; priceOf 1", "hold 1 9; pay 1; priceOf 1");
        Scene.after("addRow 20 5 1").due(1, "hold 1 9; priceOf 1");
        LARGEST.due(10000, "hold 1 9; priceOf 1");
        LARGEST.due(1000000, "holdGroup 100 9; priceOf 1", "holdGroup 100 9; pay 1; priceOf 1");
        Scene.after("addRow 3 5 10000", "addRow 3 5 0", "holdGroup 6 9").due(30000, "priceOf 1");
    }

    /** "Returns the sum of the prices, 0 if it is closed." */
    private static void promise21NoneIfClosed() {
        for (Scene scene : new Scene[] {RELEASED, CANCELLED, RAN_OUT}) {
            scene.due(0, "priceOf 1", "priceOf 2", "hold 2 9; priceOf 1");
        }
        TWO.due(200, "priceOf 1", "pay 1; priceOf 1", "pass 9; priceOf 1");
        TWO.due(221, "priceOf 2");
    }

    private static void promise21NoSuchTicket() {
        noSuchTicket("priceOf #");
    }

    // ---- 22: extend

    /** "Lets a hold last anew from now on.", and "Returns the minute at which it runs out then." */
    private static void promise22FromNowOn() {
        TWO.due(1, "extend 1 1", "extend 1 1; nextExpiry", "extend 1 1; pass 1");
        TWO.due(200, "extend 1 200");
        TWO.and("pass 9").due(10, "extend 1 1");
        TWO.and("pass 9").due(209, "extend 1 200");
        TWO.and("pass 9").due(Scene.NO_SUCH, "extend 3 1");
    }

    /** "A hold can be extended twice.", and "IllegalStateException if the ticket ... has been extended twice". */
    private static void promise22CanBeExtendedTwice() {
        TWO.due(5, "extend 1 5", "extend 1 9; extend 1 5", "extend 2 9; extend 2 9; extend 1 9; extend 1 5");
        Scene twice = TWO.and("extend 1 50", "pass 40", "extend 1 60");
        twice.due(Scene.NOT_NOW, "extend 1 1", "extend 1 60", "extend 1 200");
        twice.due(100, "nextExpiry");
        twice.due(0, "pass 59");
        twice.due(1, "pass 60");
        twice.due(200, "pay 1");
    }

    private static void promise22NoSuchTicket() {
        noSuchTicket("extend # 9");
    }

    /** "minutes: how long it lasts from now on, 1 to 200". */
    private static void promise22Minutes1To200() {
        TWO.due(Scene.OUT_OF_RANGE, Scene.each("extend 1 #", NO_MINUTES));
        TWO.and("extend 1 9").due(Scene.OUT_OF_RANGE, Scene.each("extend 1 #", NO_MINUTES));
        TWO.due(1, "extend 2 1", "extend 2 1; nextExpiry");
        TWO.due(200, "extend 2 200");
    }

    /** "IllegalStateException if the ticket is no hold": also at the very minute at which it runs out. */
    private static void promise22NoHold() {
        for (Scene scene : new Scene[] {BOUGHT, RELEASED, CANCELLED, RAN_OUT}) {
            scene.due(Scene.NOT_NOW, "extend 1 1", "extend 1 200", "extend 2 9");
        }
        TWO.and("pass 10").due(Scene.NOT_NOW, "extend 1 1");
        TWO.and("pass 10").due(11, "extend 2 1");
    }

    // ---- 23: pay

    private static void promise23PriceOfItsSeats() {
        TWO.due(200, "pay 1", "pay 1; takings");
        TWO.due(221, "pay 2");
        Scene.after("addRow 20 5 0").due(0, "hold 20 9; pay 1", "hold 1 9; pay 1; takings");
        Scene.after("addRow 20 5 0").due(1, "hold 1 9; pay 1; ticketState 1");
        LARGEST.due(1000000, "holdGroup 100 9; pay 1");
    }

    private static void promise23AtTheLastMinute() {
        TWO.and("pass 9").due(200, "pay 1");
        TWO.and("pass 10").due(Scene.NOT_NOW, "pay 1");
        TWO.and("pass 10").due(221, "pay 2");
        TWO.and("extend 1 200", "pass 199").due(200, "pay 1");
        TWO.and("extend 1 200", "pass 200").due(Scene.NOT_NOW, "pay 1");
    }

    private static void promise23NoSuchTicket() {
        noSuchTicket("pay #");
    }

    /** "Throws IllegalStateException if the ticket is no hold". */
    private static void promise23NoHold() {
        for (Scene scene : new Scene[] {BOUGHT, RELEASED, CANCELLED, RAN_OUT}) {
            scene.due(Scene.NOT_NOW, "pay 1", "pay 2");
        }
        BOUGHT.due(421, "takings");
    }

    // ---- 24: cancel

    /** "Returns what is paid back: what was paid for a booking, 0 for a hold." */
    private static void promise24PaidBack() {
        TWO.due(0, "cancel 1", "cancel 2", "cancel 1; takings", "pass 9; cancel 1");
        BOUGHT.due(200, "cancel 1", "cancel 2; takings", "pass 1000; cancel 1");
        BOUGHT.due(221, "cancel 2", "cancel 1; takings");
        Scene.after("addRow 20 5 0").due(0, "hold 20 9; pay 1; cancel 1");
        LARGEST.due(1000000, "holdGroup 100 9; pay 1; cancel 1");
        Scene moved = Scene.after("addRow 1 5 10000", "addRow 1 5 0", "hold 1 9", "pay 1", "wish 1 1", "exchange 1");
        moved.due(0, "priceOf 1", "cancel 1; takings");
        moved.due(10000, "cancel 1", "takings");
    }

    private static void promise24NoSuchTicket() {
        noSuchTicket("cancel #");
    }

    /** "Throws IllegalStateException if the ticket is closed". */
    private static void promise24Closed() {
        for (Scene scene : new Scene[] {RELEASED, CANCELLED, RAN_OUT}) {
            scene.due(Scene.NOT_NOW, "cancel 1", "cancel 2");
        }
        TWO.and("pass 10").due(Scene.NOT_NOW, "cancel 1");
        TWO.and("pass 10").due(0, "cancel 2");
    }

    // ---- 25: takings

    private static void promise25PaidLessPaidBack() {
        NEW.due(0, "takings");
        TWO.due(0, "takings", "cancel 1; takings", "pass 1000; takings", "pay 1; cancel 1; takings");
        TWO.due(200, "pay 1; takings", "pay 1; pay 2; cancel 2; takings", "pay 1; pass 1000; takings");
        Scene soldOut = LARGEST.and("holdGroup 100 9", "holdGroup 100 9", "holdGroup 40 9", "pay 1", "pay 2", "pay 3");
        soldOut.due(2400000, "takings");
        soldOut.due(1400000, "cancel 1; takings");
        soldOut.due(0, "cancel 1; cancel 2; cancel 3; takings");
    }

    // ---- 26: now

    private static void promise26Minute() {
        NEW.due(0, "now");
        NEW.due(1, "pass 1; now");
        NEW.due(1000, "pass 1000; now");
        NEW.due(2001, "pass 1000; pass 1; pass 1000; now");
        TWO.due(0, "extend 1 9; pay 1; cancel 1; now");
    }

    // ---- 27: pass

    /** "minutes: 1 to 1000". */
    private static void promise27Minutes1To1000() {
        TWO.due(Scene.OUT_OF_RANGE, Scene.each("pass #", 0, 1001, -1, -1000, Scene.LEAST, Scene.MOST));
        NEW.due(Scene.OUT_OF_RANGE, Scene.each("pass #", 0, 1001));
        NEW.due(0, "pass 1", "pass 1000");
        TWO.due(0, "pass 1", "pass 9");
        TWO.due(2, "pass 1000");
    }

    /** "Lets time pass. Holds run out on the way.": before the end of the way, at its end, and not after it. */
    private static void promise27OnTheWay() {
        TWO.due(1, "pass 10", "pass 11", "pass 19", "pass 9; pass 1", "pass 10; pass 10");
        TWO.due(2, "pass 20", "pass 21");
        TWO.due(0, "pass 9", "pass 10; pass 9", "pass 20; pass 1000");
        TWO.due(20, "pass 10; nextExpiry");
    }

    /** "Returns how many holds ran out." */
    private static void promise27NoneToHundred() {
        HUNDRED.due(0, "pass 199", "pass 200; pass 1000");
        HUNDRED.due(100, "pass 200", "pass 1000");
        HUNDRED.due(98, "pay 1; cancel 100; pass 1000");
        HUNDRED.and("pass 200").due(20, "freeSeats 0", "freeSeats 11");
        BOUGHT.due(0, "pass 1000");
        RELEASED.due(0, "pass 1000");
    }

    // ---- 28: nextExpiry

    private static void promise28NextHold() {
        ROW.due(1, "hold 1 1; nextExpiry", "hold 1 200; hold 1 1; nextExpiry", "hold 1 1; hold 1 200; nextExpiry");
        ROW.due(200, "hold 1 200; nextExpiry", "hold 1 200; pass 199; nextExpiry");
        TWO.due(10, "nextExpiry", "pass 9; nextExpiry", "cancel 2; nextExpiry");
        TWO.due(20, "pass 10; nextExpiry", "pay 1; nextExpiry", "cancel 1; nextExpiry", "extend 1 200; nextExpiry");
        ROW.due(6, "hold 1 6; hold 1 6; cancel 1; nextExpiry", "hold 1 6; hold 1 6; cancel 2; nextExpiry");
    }

    /** "Throws IllegalStateException if there are no holds": none yet, paid for, released, run out. */
    private static void promise28NoHolds() {
        for (Scene scene : new Scene[] {NEW, ROW, LARGEST, BOUGHT, RELEASED, CANCELLED, RAN_OUT}) {
            scene.due(Scene.NOT_NOW, "nextExpiry");
        }
        TWO.and("pay 1", "pass 20").due(Scene.NOT_NOW, "nextExpiry");
        TWO.and("pay 1", "pass 19").due(20, "nextExpiry");
    }
}
