/** Promises 18 to 28: tickets and the clock. */
public final class TicketsTest {
    private static final int[] NO_TICKETS = {Integer.MIN_VALUE, -1, 0, 3, 100, 101, 102, Integer.MAX_VALUE};
    private static final int[] NO_MINUTES = {Integer.MIN_VALUE, -1, 0, 201, Integer.MAX_VALUE};

    public static void main(String[] args) {
        promise18Tickets();
        promise19TicketState();
        promise20SeatsOf();
        promise21PriceOf();
        promise22Extend();
        promise23Pay();
        promise24Cancel();
        promise24AfterExchange();
        promise25Takings();
        promise26Now();
        promise27Pass();
        promise28NextExpiry();
        Check.end("TicketsTest");
    }

    /** Ticket 1 has two seats of row 0 for 10 minutes, ticket 2 has five seats of both rows for 20. */
    private static BoxofficeRow twoHolds() {
        BoxofficeRow x = new BoxofficeRow();
        x.addRow(4, 10, 100);
        x.addRow(3, 10, 7);
        x.holdAt(0, 0, 2, 10);
        x.holdGroup(5, 20);
        return x;
    }

    private static void promise18Tickets() {
        BoxofficeRow x = twoHolds();
        Check.due("18 two", 2, () -> x.tickets());
        x.cancel(1);
        Check.due("18 closed ones count", 2, () -> x.tickets());
        x.pass(20);
        Check.due("18 run out ones count", 2, () -> x.tickets());
        x.hold(1, 1);
        Check.due("18 three", 3, () -> x.tickets());
        Check.due("18 none", 0, () -> new BoxofficeRow().tickets());
    }

    private static void promise19TicketState() {
        BoxofficeRow x = twoHolds();
        Check.due("19 hold", 0, () -> x.ticketState(1));
        x.pay(1);
        Check.due("19 booking", 1, () -> x.ticketState(1));
        x.pass(20);
        Check.due("19 a booking does not run out", 1, () -> x.ticketState(1));
        Check.due("19 ran out", 2, () -> x.ticketState(2));
        x.cancel(1);
        Check.due("19 cancelled booking", 3, () -> x.ticketState(1));
        for (int ticket : NO_TICKETS) {
            Check.noSuch("19 ticket", () -> x.ticketState(ticket));
        }
        x.hold(1, 5);
        x.cancel(3);
        Check.due("19 released hold", 3, () -> x.ticketState(3));
        x.pass(5);
        Check.due("19 closed stays closed", 3, () -> x.ticketState(3));
        Check.due("19 run out stays so", 2, () -> x.ticketState(2));
    }

    private static void promise20SeatsOf() {
        BoxofficeRow x = twoHolds();
        Check.due("20 block", 2, () -> x.seatsOf(1));
        Check.due("20 several rows", 5, () -> x.seatsOf(2));
        x.pay(1);
        Check.due("20 booking", 2, () -> x.seatsOf(1));
        x.pass(20);
        Check.due("20 ran out", 0, () -> x.seatsOf(2));
        x.cancel(1);
        Check.due("20 closed", 0, () -> x.seatsOf(1));
        for (int ticket : NO_TICKETS) {
            Check.noSuch("20 ticket", () -> x.seatsOf(ticket));
        }
    }

    private static void promise21PriceOf() {
        BoxofficeRow x = twoHolds();
        Check.due("21 block", 200, () -> x.priceOf(1));
        Check.due("21 several rows", 221, () -> x.priceOf(2));
        x.pay(1);
        Check.due("21 booking", 200, () -> x.priceOf(1));
        x.pass(20);
        Check.due("21 ran out", 0, () -> x.priceOf(2));
        x.wish(1, 1);
        x.exchange(1);
        Check.due("21 the price of the seats now", 14, () -> x.priceOf(1));
        x.cancel(1);
        Check.due("21 closed", 0, () -> x.priceOf(1));
        for (int ticket : NO_TICKETS) {
            Check.noSuch("21 ticket", () -> x.priceOf(ticket));
        }
    }

    private static void promise22Extend() {
        BoxofficeRow x = twoHolds();
        x.pass(9);
        Check.due("22 from now on", 10, () -> x.extend(1, 1));
        Check.due("22 second, longest", 209, () -> x.extend(1, 200));
        Check.notNow("22 third", () -> x.extend(1, 5));
        Check.due("22 refused changes nothing", 20, () -> x.nextExpiry());
        Check.due("22 each hold twice", 14, () -> x.extend(2, 5));
        Check.due("22 can be shorter", 14, () -> x.nextExpiry());
        for (int wrong : NO_MINUTES) {
            Check.outOfRange("22 minutes", () -> x.extend(2, wrong));
            Check.outOfRange("22 minutes before state", () -> x.extend(1, wrong));
            Check.noSuch("22 ticket before minutes", () -> x.extend(3, wrong));
        }
        Check.due("22 refused did not count", 39, () -> x.extend(2, 30));
        for (int ticket : NO_TICKETS) {
            Check.noSuch("22 ticket", () -> x.extend(ticket, 5));
        }
        x.pass(29);
        Check.due("22 not at the old end", 0, () -> x.ticketState(1));
        Check.due("22 still held before the end", 0, () -> x.ticketState(2));
        Check.due("22 at the end", 1, () -> x.pass(1));
        Check.notNow("22 ran out", () -> x.extend(2, 5));
        x.pay(1);
        Check.notNow("22 booking", () -> x.extend(1, 5));
        x.cancel(1);
        Check.notNow("22 closed", () -> x.extend(1, 5));
        promise22NeverExtended();
    }

    private static void promise22NeverExtended() {
        BoxofficeRow x = twoHolds();
        x.pay(1);
        Check.notNow("22 booking", () -> x.extend(1, 5));
        x.cancel(1);
        Check.notNow("22 cancelled", () -> x.extend(1, 5));
        x.pass(20);
        Check.notNow("22 ran out", () -> x.extend(2, 5));
        Check.due("22 stays closed", 2, () -> x.ticketState(2));
    }

    private static void promise23Pay() {
        BoxofficeRow x = twoHolds();
        Check.due("23 price", 200, () -> x.pay(1));
        Check.due("23 booking", 1, () -> x.ticketState(1));
        Check.due("23 sold", 2, () -> x.state(0, 0));
        Check.due("23 same ticket", 1, () -> x.ticketAt(0, 1));
        Check.notNow("23 twice", () -> x.pay(1));
        Check.due("23 taken once", 200, () -> x.takings());
        x.pass(10);
        Check.due("23 does not run out", 1, () -> x.ticketState(1));
        Check.due("23 price over rows", 221, () -> x.pay(2));
        x.cancel(2);
        Check.notNow("23 closed", () -> x.pay(2));
        for (int ticket : NO_TICKETS) {
            Check.noSuch("23 ticket", () -> x.pay(ticket));
        }
        BoxofficeRow y = twoHolds();
        y.pass(10);
        Check.notNow("23 ran out", () -> y.pay(1));
        Check.due("23 nothing taken", 0, () -> y.takings());
        Check.due("23 seats stay free", 0, () -> y.state(0, 0));
    }

    private static void promise24Cancel() {
        BoxofficeRow x = twoHolds();
        Check.due("24 hold", 0, () -> x.cancel(1));
        Check.due("24 free", 0, () -> x.state(0, 0));
        Check.due("24 free", 0, () -> x.state(0, 1));
        Check.due("24 others stay", 1, () -> x.state(0, 2));
        Check.due("24 closed", 3, () -> x.ticketState(1));
        Check.notNow("24 closed", () -> x.cancel(1));
        x.pay(2);
        Check.due("24 booking", 221, () -> x.cancel(2));
        Check.due("24 all free", 4, () -> x.freeSeats(0));
        Check.due("24 all free", 3, () -> x.freeSeats(1));
        Check.notNow("24 closed", () -> x.cancel(2));
        Check.due("24 paid back once", 0, () -> x.takings());
        for (int ticket : NO_TICKETS) {
            Check.noSuch("24 ticket", () -> x.cancel(ticket));
        }
        BoxofficeRow y = twoHolds();
        y.pass(10);
        y.holdAt(0, 0, 1, 5);
        Check.notNow("24 ran out", () -> y.cancel(1));
        Check.due("24 new ticket keeps its seat", 3, () -> y.ticketAt(0, 0));
    }

    private static void promise24AfterExchange() {
        BoxofficeRow x = twoHolds();
        x.cancel(2);
        x.pay(1);
        x.wish(1, 1);
        Check.due("24 moved", 1, () -> x.exchange(1));
        Check.due("24 price now", 14, () -> x.priceOf(1));
        Check.due("24 takings as they were", 200, () -> x.takings());
        Check.due("24 what was paid", 200, () -> x.cancel(1));
        Check.due("24 nothing left", 0, () -> x.takings());
        Check.due("24 new seats free", 3, () -> x.freeSeats(1));
    }

    private static void promise25Takings() {
        BoxofficeRow x = twoHolds();
        Check.due("25 holds bring nothing", 0, () -> x.takings());
        x.pay(1);
        Check.due("25 paid", 200, () -> x.takings());
        x.pay(2);
        Check.due("25 paid", 421, () -> x.takings());
        x.cancel(1);
        Check.due("25 paid back", 221, () -> x.takings());
        x.hold(1, 1);
        x.cancel(3);
        Check.due("25 a released hold costs nothing", 221, () -> x.takings());
        x.pass(1000);
        Check.due("25 time costs nothing", 221, () -> x.takings());
    }

    private static void promise26Now() {
        BoxofficeRow x = twoHolds();
        Check.due("26 start", 0, () -> x.now());
        x.pass(1);
        Check.due("26 one", 1, () -> x.now());
        x.pass(1000);
        Check.due("26 more", 1001, () -> x.now());
        Check.outOfRange("26 refused", () -> x.pass(1001));
        Check.due("26 refused changes nothing", 1001, () -> x.now());
    }

    private static void promise27Pass() {
        BoxofficeRow x = twoHolds();
        Check.outOfRange("27 none", () -> x.pass(0));
        Check.outOfRange("27 below", () -> x.pass(-1));
        Check.outOfRange("27 far below", () -> x.pass(Integer.MIN_VALUE));
        Check.outOfRange("27 above", () -> x.pass(1001));
        Check.outOfRange("27 far above", () -> x.pass(Integer.MAX_VALUE));
        Check.due("27 just before", 0, () -> x.pass(9));
        Check.due("27 still held", 1, () -> x.state(0, 0));
        Check.due("27 at the minute", 1, () -> x.pass(1));
        Check.due("27 free", 0, () -> x.state(0, 0));
        Check.due("27 the other stays", 0, () -> x.ticketState(2));
        x.hold(1, 3);
        x.hold(1, 4);
        x.pay(4);
        Check.due("27 several, no booking", 2, () -> x.pass(1000));
        Check.due("27 once only", 0, () -> x.pass(1000));
        Check.due("27 booking stays", 2, () -> x.seatsOf(4) + x.ticketState(4));
    }

    private static void promise28NextExpiry() {
        BoxofficeRow x = twoHolds();
        Check.due("28 earliest", 10, () -> x.nextExpiry());
        x.extend(1, 30);
        Check.due("28 after extending", 20, () -> x.nextExpiry());
        x.cancel(2);
        Check.due("28 after releasing", 30, () -> x.nextExpiry());
        x.pass(5);
        x.holdAt(1, 0, 1, 2);
        Check.due("28 from now on", 7, () -> x.nextExpiry());
        x.pay(3);
        Check.due("28 bookings do not count", 30, () -> x.nextExpiry());
        x.pass(25);
        Check.notNow("28 no holds", () -> x.nextExpiry());
    }
}
