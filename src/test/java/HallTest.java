/** Promises 1 to 10: the hall. */
public final class HallTest {
    private static final int[] FAR_NUMBERS = {Integer.MIN_VALUE, -1000, -1, 12, 20, 100, Integer.MAX_VALUE};

    public static void main(String[] args) {
        promise1NewObject();
        promise2AddRow();
        promise2TwelveRows();
        promise3ToggleBlocked();
        promise4Rows();
        promise5State();
        promise6TicketAt();
        promise7Value();
        promise8FreeSeats();
        promise9Orphans();
        promise10LongestBlock();
        Check.end("HallTest");
    }

    private static void promise1NewObject() {
        BoxofficeRow x = new BoxofficeRow();
        Check.due("1 rows", 0, () -> x.rows());
        Check.due("1 now", 0, () -> x.now());
        Check.due("1 tickets", 0, () -> x.tickets());
        Check.due("1 takings", 0, () -> x.takings());
        Check.due("1 orphans", 0, () -> x.orphans());
        Check.due("1 longestBlock", 0, () -> x.longestBlock());
        Check.notNow("1 nextExpiry", () -> x.nextExpiry());
        Check.noSuch("1 state", () -> x.state(0, 0));
        Check.noSuch("1 ticketState", () -> x.ticketState(1));
        BoxofficeRow y = new BoxofficeRow();
        y.addRow(3, 3, 3);
        y.pass(3);
        Check.due("1 objects share no rows", 0, () -> x.rows());
        Check.due("1 objects share no clock", 0, () -> x.now());
    }

    private static void promise2AddRow() {
        BoxofficeRow x = new BoxofficeRow();
        Check.outOfRange("2 no seats", () -> x.addRow(0, 5, 5));
        Check.outOfRange("2 seats below", () -> x.addRow(-1, 5, 5));
        Check.outOfRange("2 seats above", () -> x.addRow(21, 5, 5));
        Check.outOfRange("2 seats far", () -> x.addRow(Integer.MIN_VALUE, 5, 5));
        Check.outOfRange("2 score below", () -> x.addRow(5, -1, 5));
        Check.outOfRange("2 score above", () -> x.addRow(5, 1001, 5));
        Check.outOfRange("2 price below", () -> x.addRow(5, 5, -1));
        Check.outOfRange("2 price above", () -> x.addRow(5, 5, 10001));
        Check.due("2 refused rows change nothing", 0, () -> x.rows());
        Check.due("2 smallest", 0, () -> x.addRow(1, 0, 0));
        Check.due("2 greatest", 1, () -> x.addRow(20, 1000, 10000));
        Check.due("2 ordinary", 2, () -> x.addRow(7, 30, 15));
        Check.due("2 all seats free", 7, () -> x.freeSeats(2));
        Check.due("2 all seats free", 20, () -> x.freeSeats(1));
        Check.due("2 score taken", 1000 - 19, () -> x.value(1, 0));
        Check.due("2 hold", 1, () -> x.holdAt(1, 0, 20, 1));
        Check.due("2 price taken", 200000, () -> x.priceOf(1));
        Check.noSuch("2 no seat beyond", () -> x.state(2, 7));
    }

    private static void promise2TwelveRows() {
        BoxofficeRow x = new BoxofficeRow();
        for (int row = 0; row < 12; row++) {
            int seats = row + 1;
            Check.due("2 row", row, () -> x.addRow(seats, 10 * seats, seats));
        }
        Check.notNow("2 the thirteenth", () -> x.addRow(5, 5, 5));
        Check.outOfRange("2 argument first, seats", () -> x.addRow(0, 5, 5));
        Check.outOfRange("2 argument first, score", () -> x.addRow(5, -5, 5));
        Check.outOfRange("2 argument first, price", () -> x.addRow(5, 5, -5));
        Check.due("2 still twelve", 12, () -> x.rows());
        Check.due("2 last row as it was", 12, () -> x.freeSeats(11));
    }

    private static BoxofficeRow smallHall() {
        BoxofficeRow x = new BoxofficeRow();
        x.addRow(5, 20, 3);
        x.addRow(1, 0, 7);
        return x;
    }

    private static void promise3ToggleBlocked() {
        BoxofficeRow x = smallHall();
        Check.due("3 block", true, () -> x.toggleBlocked(0, 2));
        Check.due("3 blocked", 3, () -> x.state(0, 2));
        Check.due("3 others free", 4, () -> x.freeSeats(0));
        Check.due("3 unblock", false, () -> x.toggleBlocked(0, 2));
        Check.due("3 free again", 0, () -> x.state(0, 2));
        Check.due("3 block again", true, () -> x.toggleBlocked(0, 2));
        Check.due("3 last seat", true, () -> x.toggleBlocked(0, 4));
        Check.due("3 row of one", true, () -> x.toggleBlocked(1, 0));
        x.holdAt(0, 0, 2, 5);
        Check.notNow("3 held", () -> x.toggleBlocked(0, 1));
        x.pay(1);
        Check.notNow("3 sold", () -> x.toggleBlocked(0, 1));
        Check.due("3 still sold", 2, () -> x.state(0, 1));
        x.cancel(1);
        Check.due("3 free after cancel", true, () -> x.toggleBlocked(0, 1));
        Check.noSuch("3 row", () -> x.toggleBlocked(2, 0));
        Check.noSuch("3 row below", () -> x.toggleBlocked(-1, 0));
        Check.noSuch("3 seat", () -> x.toggleBlocked(0, 5));
        Check.noSuch("3 seat below", () -> x.toggleBlocked(0, -1));
        Check.noSuch("3 seat of another row", () -> x.toggleBlocked(1, 1));
    }

    private static void promise4Rows() {
        BoxofficeRow x = new BoxofficeRow();
        for (int row = 0; row < 12; row++) {
            Check.due("4 rows", row, () -> x.rows());
            x.addRow(1 + row, 0, 0);
        }
        Check.due("4 rows", 12, () -> x.rows());
    }

    private static void promise5State() {
        BoxofficeRow x = smallHall();
        x.holdAt(0, 1, 2, 9);
        x.toggleBlocked(0, 4);
        Check.due("5 free", 0, () -> x.state(0, 0));
        Check.due("5 held", 1, () -> x.state(0, 1));
        Check.due("5 held", 1, () -> x.state(0, 2));
        Check.due("5 free", 0, () -> x.state(0, 3));
        Check.due("5 blocked", 3, () -> x.state(0, 4));
        Check.due("5 other row", 0, () -> x.state(1, 0));
        x.pay(1);
        Check.due("5 sold", 2, () -> x.state(0, 1));
        x.cancel(1);
        Check.due("5 cancelled", 0, () -> x.state(0, 1));
        x.holdAt(0, 0, 1, 4);
        x.pass(4);
        Check.due("5 ran out", 0, () -> x.state(0, 0));
        for (int far : FAR_NUMBERS) {
            Check.noSuch("5 row", () -> x.state(far, 0));
            Check.noSuch("5 seat", () -> x.state(0, far));
        }
        Check.noSuch("5 seat", () -> x.state(0, 5));
        Check.noSuch("5 row", () -> x.state(2, 0));
    }

    private static void promise6TicketAt() {
        BoxofficeRow x = smallHall();
        x.holdAt(1, 0, 1, 9);
        x.holdAt(0, 1, 2, 9);
        x.toggleBlocked(0, 4);
        Check.due("6 free", 0, () -> x.ticketAt(0, 0));
        Check.due("6 blocked", 0, () -> x.ticketAt(0, 4));
        Check.due("6 held", 2, () -> x.ticketAt(0, 1));
        Check.due("6 held", 2, () -> x.ticketAt(0, 2));
        Check.due("6 held", 1, () -> x.ticketAt(1, 0));
        x.pay(2);
        Check.due("6 sold", 2, () -> x.ticketAt(0, 2));
        x.cancel(2);
        Check.due("6 closed", 0, () -> x.ticketAt(0, 2));
        x.pass(9);
        Check.due("6 ran out", 0, () -> x.ticketAt(1, 0));
        for (int far : FAR_NUMBERS) {
            Check.noSuch("6 row", () -> x.ticketAt(far, 0));
            Check.noSuch("6 seat", () -> x.ticketAt(0, far));
        }
        Check.noSuch("6 seat", () -> x.ticketAt(1, 1));
        Check.noSuch("6 row", () -> x.ticketAt(2, 0));
    }

    private static void promise7Value() {
        BoxofficeRow x = new BoxofficeRow();
        x.addRow(4, 10, 1);
        x.addRow(5, 10, 1);
        x.addRow(20, 0, 1);
        x.addRow(1, 1000, 1);
        int[] even = {7, 9, 9, 7};
        int[] odd = {6, 8, 10, 8, 6};
        for (int seat = 0; seat < even.length; seat++) {
            int at = seat;
            Check.due("7 even row", even[at], () -> x.value(0, at));
        }
        for (int seat = 0; seat < odd.length; seat++) {
            int at = seat;
            Check.due("7 odd row", odd[at], () -> x.value(1, at));
        }
        Check.due("7 negative", -19, () -> x.value(2, 0));
        Check.due("7 negative", -19, () -> x.value(2, 19));
        Check.due("7 negative", -1, () -> x.value(2, 10));
        Check.due("7 row of one", 1000, () -> x.value(3, 0));
        x.toggleBlocked(0, 0);
        Check.due("7 of a blocked seat", 7, () -> x.value(0, 0));
        x.holdAt(0, 1, 1, 1);
        Check.due("7 of a held seat", 9, () -> x.value(0, 1));
        for (int far : FAR_NUMBERS) {
            Check.noSuch("7 row", () -> x.value(far, 0));
            Check.noSuch("7 seat", () -> x.value(0, far));
        }
        Check.noSuch("7 seat", () -> x.value(0, 4));
        Check.noSuch("7 row", () -> x.value(4, 0));
    }

    private static void promise8FreeSeats() {
        BoxofficeRow x = smallHall();
        Check.due("8 new row", 5, () -> x.freeSeats(0));
        x.holdAt(0, 0, 2, 9);
        Check.due("8 held", 3, () -> x.freeSeats(0));
        x.pay(1);
        Check.due("8 sold", 3, () -> x.freeSeats(0));
        x.toggleBlocked(0, 4);
        Check.due("8 blocked", 2, () -> x.freeSeats(0));
        x.cancel(1);
        Check.due("8 cancelled", 4, () -> x.freeSeats(0));
        x.holdAt(1, 0, 1, 9);
        Check.due("8 none left", 0, () -> x.freeSeats(1));
        for (int far : FAR_NUMBERS) {
            Check.noSuch("8 row", () -> x.freeSeats(far));
        }
        Check.noSuch("8 row", () -> x.freeSeats(2));
    }

    private static void promise9Orphans() {
        BoxofficeRow x = smallHall();
        Check.due("9 row of one", 1, () -> x.orphans());
        x.toggleBlocked(1, 0);
        Check.due("9 blocked is no orphan", 0, () -> x.orphans());
        x.toggleBlocked(0, 1);
        Check.due("9 at the left end", 1, () -> x.orphans());
        x.holdAt(0, 3, 1, 9);
        Check.due("9 in the middle and at the right end", 3, () -> x.orphans());
        x.toggleBlocked(1, 0);
        Check.due("9 of all rows", 4, () -> x.orphans());
        x.pass(9);
        Check.due("9 after running out", 2, () -> x.orphans());
    }

    private static void promise10LongestBlock() {
        BoxofficeRow x = smallHall();
        Check.due("10 whole row", 5, () -> x.longestBlock());
        x.toggleBlocked(0, 1);
        Check.due("10 up to the right end", 3, () -> x.longestBlock());
        x.toggleBlocked(0, 1);
        x.holdAt(0, 3, 1, 9);
        Check.due("10 from the left end", 3, () -> x.longestBlock());
        x.holdAt(0, 0, 3, 9);
        Check.due("10 one", 1, () -> x.longestBlock());
        x.holdAt(0, 4, 1, 9);
        Check.due("10 other row", 1, () -> x.longestBlock());
        x.toggleBlocked(1, 0);
        Check.due("10 none", 0, () -> x.longestBlock());
        x.addRow(20, 1, 1);
        Check.due("10 greatest row", 20, () -> x.longestBlock());
        BoxofficeRow y = new BoxofficeRow();
        y.addRow(3, 5, 5);
        y.addRow(4, 5, 5);
        y.holdAt(0, 0, 1, 5);
        Check.due("10 no block over two rows", 4, () -> y.longestBlock());
    }
}
