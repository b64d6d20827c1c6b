/** The largest hall and all its tickets: every call at the edges, where an index could go too far. */
public final class EdgesTest {
    private static final int[] FAR = {Integer.MIN_VALUE, Integer.MIN_VALUE + 1, -101, -12, -2, -1, 12, 13, 20, 21,
        101, 102, 1000, Integer.MAX_VALUE - 1, Integer.MAX_VALUE};

    public static void main(String[] args) {
        freeHall();
        noSuchRow();
        noSuchSeat();
        noSuchTicket();
        soldHall();
        allTickets();
        Check.end("EdgesTest");
    }

    private static BoxofficeRow largest() {
        BoxofficeRow x = new BoxofficeRow();
        for (int row = 0; row < 12; row++) {
            x.addRow(20, 1000, 10000);
        }
        return x;
    }

    private static void freeHall() {
        BoxofficeRow x = largest();
        Check.due("rows", 12, () -> x.rows());
        Check.due("state", 0, () -> x.state(11, 19));
        Check.due("value", 981, () -> x.value(11, 19));
        Check.due("freeSeats", 20, () -> x.freeSeats(11));
        Check.due("orphans", 0, () -> x.orphans());
        Check.due("longestBlock", 20, () -> x.longestBlock());
        Check.due("bestBlock", 0, () -> x.bestBlock(20));
        Check.due("leavesOrphan", false, () -> x.leavesOrphan(20));
        Check.notNow("holdAt", () -> x.holdAt(11, 19, 2, 1));
        Check.notNow("holdAt", () -> x.holdAt(11, 19, 20, 1));
        Check.due("rowsForGroup", 5, () -> x.rowsForGroup(100));
        Check.due("seatsForGroup", 20, () -> x.seatsForGroup(100, 4));
        Check.due("seatsForGroup", 0, () -> x.seatsForGroup(100, 11));
        Check.due("toggleBlocked", true, () -> x.toggleBlocked(11, 19));
        Check.due("toggleBlocked", false, () -> x.toggleBlocked(11, 19));
        Check.due("holdAt", 1, () -> x.holdAt(11, 19, 1, 200));
        Check.due("ticketAt", 1, () -> x.ticketAt(11, 19));
        Check.due("pass", 1, () -> x.pass(1000));
    }

    private static void noSuchRow() {
        BoxofficeRow x = largest();
        x.holdAt(0, 0, 1, 1);
        x.pay(1);
        for (int row : FAR) {
            Check.noSuch("toggleBlocked", () -> x.toggleBlocked(row, 0));
            Check.noSuch("state", () -> x.state(row, 0));
            Check.noSuch("ticketAt", () -> x.ticketAt(row, 0));
            Check.noSuch("value", () -> x.value(row, 0));
            Check.noSuch("freeSeats", () -> x.freeSeats(row));
            Check.noSuch("holdAt", () -> x.holdAt(row, 0, 1, 1));
            Check.noSuch("seatsForGroup", () -> x.seatsForGroup(2, row));
            Check.noSuch("wish", () -> x.wish(1, row));
        }
    }

    private static void noSuchSeat() {
        BoxofficeRow x = largest();
        for (int far : FAR) {
            int seat = far == 12 || far == 13 ? 20 : far;
            Check.noSuch("toggleBlocked", () -> x.toggleBlocked(11, seat));
            Check.noSuch("state", () -> x.state(11, seat));
            Check.noSuch("ticketAt", () -> x.ticketAt(11, seat));
            Check.noSuch("value", () -> x.value(11, seat));
            Check.noSuch("holdAt", () -> x.holdAt(11, seat, 1, 1));
        }
        Check.due("nothing held", 0, () -> x.tickets());
    }

    private static void noSuchTicket() {
        BoxofficeRow x = largest();
        x.hold(2, 200);
        for (int far : FAR) {
            for (int ticket : new int[] {far, 0, 2, 100}) {
                Check.noSuch("ticketState", () -> x.ticketState(ticket));
                Check.noSuch("seatsOf", () -> x.seatsOf(ticket));
                Check.noSuch("priceOf", () -> x.priceOf(ticket));
                Check.noSuch("extend", () -> x.extend(ticket, 1));
                Check.noSuch("pay", () -> x.pay(ticket));
                Check.noSuch("cancel", () -> x.cancel(ticket));
                Check.noSuch("wish", () -> x.wish(ticket, 0));
                Check.noSuch("exchange", () -> x.exchange(ticket));
            }
        }
    }

    private static void soldHall() {
        BoxofficeRow x = largest();
        Check.due("holdGroup", 1, () -> x.holdGroup(100, 200));
        Check.due("holdGroup", 2, () -> x.holdGroup(100, 200));
        Check.due("holdGroup", 3, () -> x.holdGroup(40, 200));
        Check.due("pay", 1000000, () -> x.pay(1));
        Check.due("pay", 1000000, () -> x.pay(2));
        Check.due("pay", 400000, () -> x.pay(3));
        Check.due("takings", 2400000, () -> x.takings());
        Check.due("ticketAt", 3, () -> x.ticketAt(11, 19));
        Check.due("orphans", 0, () -> x.orphans());
        Check.due("longestBlock", 0, () -> x.longestBlock());
        Check.notNow("bestBlock", () -> x.bestBlock(1));
        Check.notNow("rowsForGroup", () -> x.rowsForGroup(2));
        Check.notNow("rowsForGroup", () -> x.rowsForGroup(100));
        Check.due("cancel", 400000, () -> x.cancel(3));
        Check.due("freeSeats", 20, () -> x.freeSeats(11));
    }

    private static void allTickets() {
        BoxofficeRow x = largest();
        for (int ticket = 1; ticket <= 100; ticket++) {
            int row = (ticket - 1) / 10;
            int first = (ticket - 1) % 10 * 2;
            int want = ticket;
            Check.due("holdAt", want, () -> x.holdAt(row, first, 2, 5));
            x.pay(ticket);
            x.wish(ticket, (row + 1) % 10);
        }
        Check.noSuch("101", () -> x.ticketState(101));
        Check.notNow("the last ticket is given", () -> x.hold(1, 1));
        Check.due("nine others stand between", 10, () -> x.exchange(100));
        Check.due("lowest of the next row", 100, () -> x.ticketAt(0, 0));
        Check.due("the first one's row", 81, () -> x.ticketAt(9, 18));
        Check.due("no money", 100 * 20000, () -> x.takings());
        Check.due("bookings stay", 0, () -> x.pass(1000));
        Check.due("last of all", 20000, () -> x.cancel(100));
        Check.due("free", 2, () -> x.freeSeats(0));
    }
}
