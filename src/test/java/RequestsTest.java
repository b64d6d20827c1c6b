/** Promises 11 to 17: requests. */
public final class RequestsTest {
    private static final int[] NO_MINUTES = {Integer.MIN_VALUE, -1, 0, 201, Integer.MAX_VALUE};
    private static final int[] NO_SEATS = {Integer.MIN_VALUE, -1, 0, 21, Integer.MAX_VALUE};
    private static final int[] NO_PEOPLE = {Integer.MIN_VALUE, -2, 0, 1, 101, Integer.MAX_VALUE};

    public static void main(String[] args) {
        promise11BestBlock();
        promise11OrphanRule();
        promise12LeavesOrphan();
        promise13Hold();
        promise14HoldAt();
        promise15RowsForGroup();
        promise16SeatsForGroup();
        promise16Ties();
        promise17HoldGroup();
        promise17OneRow();
        hundredTickets();
        Check.end("RequestsTest");
    }

    private static BoxofficeRow hall(int... seatsAndScores) {
        BoxofficeRow x = new BoxofficeRow();
        for (int at = 0; at + 1 < seatsAndScores.length; at += 2) {
            x.addRow(seatsAndScores[at], seatsAndScores[at + 1], 10 + at);
        }
        return x;
    }

    private static void promise11BestBlock() {
        BoxofficeRow x = hall(5, 10, 5, 12, 5, 12);
        Check.due("11 greatest value, lowest row", 102, () -> x.bestBlock(1));
        Check.due("11 lowest first seat of those without orphan", 100, () -> x.bestBlock(3));
        Check.due("11 whole row", 100, () -> x.bestBlock(5));
        Check.notNow("11 too long", () -> x.bestBlock(6));
        Check.notNow("11 no row so long", () -> x.bestBlock(20));
        for (int seats : NO_SEATS) {
            Check.outOfRange("11 seats", () -> x.bestBlock(seats));
        }
        x.holdAt(1, 2, 1, 5);
        Check.due("11 held seats are not possible", 202, () -> x.bestBlock(1));
        Check.due("11 changes nothing", 1, () -> x.tickets());
        BoxofficeRow y = hall(20, 0, 20, 1);
        Check.due("11 negative values", 100, () -> y.bestBlock(20));
        Check.due("11 negative values", 109, () -> y.bestBlock(1));
        y.toggleBlocked(1, 10);
        y.toggleBlocked(1, 9);
        Check.due("11 negative values, lower row", 9, () -> y.bestBlock(2));
        Check.notNow("11 empty hall", () -> new BoxofficeRow().bestBlock(1));
        Check.outOfRange("11 argument first", () -> new BoxofficeRow().bestBlock(0));
    }

    private static void promise11OrphanRule() {
        BoxofficeRow x = hall(4, 100, 6, 0);
        Check.due("11 middle of four leaves orphans", 0, () -> x.bestBlock(2));
        Check.due("11 three of four leave one, six do not", 100, () -> x.bestBlock(3));
        x.holdAt(1, 0, 6, 50);
        Check.due("11 only with orphan", 0, () -> x.bestBlock(3));
        x.toggleBlocked(0, 3);
        Check.due("11 a blocked seat is no orphan", 0, () -> x.bestBlock(3));
        Check.due("11 two of three, of equal orphans the value", 1, () -> x.bestBlock(2));
        Check.due("11 the end, not the middle", 0, () -> hall(3, 9).bestBlock(1));
        BoxofficeRow y = hall(7, 9);
        y.toggleBlocked(0, 0);
        Check.due("11 orphan beside a blocked seat", 3, () -> y.bestBlock(2));
    }

    private static void promise12LeavesOrphan() {
        BoxofficeRow x = hall(3, 9);
        Check.due("12 one at the end", false, () -> x.leavesOrphan(1));
        Check.due("12 two of three", true, () -> x.leavesOrphan(2));
        Check.due("12 the row", false, () -> x.leavesOrphan(3));
        Check.notNow("12 no block", () -> x.leavesOrphan(4));
        for (int seats : NO_SEATS) {
            Check.outOfRange("12 seats", () -> x.leavesOrphan(seats));
        }
        x.toggleBlocked(0, 0);
        Check.due("12 on the right", true, () -> x.leavesOrphan(1));
        x.toggleBlocked(0, 1);
        Check.due("12 orphan taken", false, () -> x.leavesOrphan(1));
        x.addRow(3, 9, 0);
        x.addRow(4, 0, 0);
        Check.due("12 other row without", false, () -> x.leavesOrphan(2));
        Check.due("12 other row without", 200, () -> x.bestBlock(2));
        BoxofficeRow y = hall(4, 9);
        y.toggleBlocked(0, 3);
        y.addRow(2, 0, 0);
        y.toggleBlocked(1, 0);
        Check.due("12 an orphan elsewhere does not matter", false, () -> y.leavesOrphan(3));
        Check.due("12 left side", true, () -> y.leavesOrphan(2));
        Check.notNow("12 empty hall", () -> new BoxofficeRow().leavesOrphan(1));
    }

    private static void promise13Hold() {
        BoxofficeRow x = hall(6, 10, 3, 30);
        Check.due("13 best block", 1, () -> x.hold(3, 7));
        Check.due("13 seats", 1, () -> x.ticketAt(1, 0));
        Check.due("13 seats", 1, () -> x.ticketAt(1, 2));
        Check.due("13 held", 1, () -> x.state(1, 1));
        Check.due("13 seat count", 3, () -> x.seatsOf(1));
        Check.due("13 price", 36, () -> x.priceOf(1));
        Check.due("13 a hold", 0, () -> x.ticketState(1));
        Check.due("13 lasts", 7, () -> x.nextExpiry());
        Check.due("13 second", 2, () -> x.hold(2, 200));
        Check.due("13 no orphan", 2, () -> x.ticketAt(0, 2));
        Check.notNow("13 no block", () -> x.hold(3, 7));
        for (int wrong : NO_SEATS) {
            Check.outOfRange("13 seats", () -> x.hold(wrong, 7));
        }
        for (int wrong : NO_MINUTES) {
            Check.outOfRange("13 minutes", () -> x.hold(1, wrong));
            Check.outOfRange("13 argument before state", () -> x.hold(20, wrong));
        }
        Check.due("13 refused change nothing", 2, () -> x.tickets());
        x.pass(3);
        Check.due("13 from now on", 3, () -> x.hold(1, 1));
        Check.due("13 from now on", 4, () -> x.nextExpiry());
    }

    private static void promise14HoldAt() {
        BoxofficeRow x = hall(6, 10, 3, 30);
        Check.due("14 middle", 1, () -> x.holdAt(0, 1, 2, 200));
        Check.due("14 left of it free", 0, () -> x.ticketAt(0, 0));
        Check.due("14 first", 1, () -> x.ticketAt(0, 1));
        Check.due("14 last", 1, () -> x.ticketAt(0, 2));
        Check.due("14 right of it free", 0, () -> x.ticketAt(0, 3));
        Check.due("14 lasts", 200, () -> x.nextExpiry());
        Check.notNow("14 overlap", () -> x.holdAt(0, 0, 2, 5));
        Check.notNow("14 overlap", () -> x.holdAt(0, 2, 1, 5));
        Check.notNow("14 beyond the row", () -> x.holdAt(0, 4, 3, 5));
        Check.notNow("14 beyond the row", () -> x.holdAt(1, 0, 20, 5));
        x.toggleBlocked(1, 1);
        Check.notNow("14 blocked", () -> x.holdAt(1, 0, 2, 5));
        Check.due("14 up to the end", 2, () -> x.holdAt(0, 4, 2, 1));
        Check.noSuch("14 row", () -> x.holdAt(2, 0, 1, 5));
        Check.noSuch("14 row", () -> x.holdAt(-1, 0, 1, 5));
        Check.noSuch("14 seat", () -> x.holdAt(1, 3, 1, 5));
        Check.noSuch("14 seat", () -> x.holdAt(1, -1, 1, 5));
        for (int wrong : NO_SEATS) {
            Check.outOfRange("14 seats", () -> x.holdAt(0, 3, wrong, 5));
            Check.outOfRange("14 seats before state", () -> x.holdAt(0, 1, wrong, 5));
            Check.noSuch("14 seat before seats", () -> x.holdAt(0, 6, wrong, 5));
        }
        for (int wrong : NO_MINUTES) {
            Check.outOfRange("14 minutes", () -> x.holdAt(0, 3, 1, wrong));
            Check.noSuch("14 row before minutes", () -> x.holdAt(9, 0, 1, wrong));
        }
        Check.due("14 refused change nothing", 2, () -> x.tickets());
        Check.due("14 refused change nothing", 0, () -> x.state(0, 3));
    }

    private static void promise15RowsForGroup() {
        BoxofficeRow x = hall(4, 10, 6, 10, 1, 900, 3, 10);
        Check.due("15 one row", 1, () -> x.rowsForGroup(2));
        Check.due("15 one row", 1, () -> x.rowsForGroup(6));
        Check.due("15 two rows", 2, () -> x.rowsForGroup(7));
        Check.due("15 two rows", 2, () -> x.rowsForGroup(10));
        Check.due("15 three rows", 3, () -> x.rowsForGroup(11));
        Check.due("15 three rows", 3, () -> x.rowsForGroup(13));
        Check.notNow("15 a row of one does not help", () -> x.rowsForGroup(14));
        for (int people : NO_PEOPLE) {
            Check.outOfRange("15 people", () -> x.rowsForGroup(people));
            Check.outOfRange("15 people before state", () -> new BoxofficeRow().rowsForGroup(people));
        }
        Check.notNow("15 empty hall", () -> new BoxofficeRow().rowsForGroup(2));
        BoxofficeRow y = hall(3, 0, 3, 0);
        y.toggleBlocked(0, 1);
        y.toggleBlocked(1, 1);
        Check.notNow("15 only single seats", () -> y.rowsForGroup(2));
        BoxofficeRow z = hall(2, 0, 2, 0);
        Check.notNow("15 three in rows of two", () -> z.rowsForGroup(3));
        BoxofficeRow big = hall(20, 0, 20, 0, 20, 0, 20, 0, 20, 0, 20, 0);
        Check.due("15 a hundred", 5, () -> big.rowsForGroup(100));
        BoxofficeRow pairs = hall(2, 0, 2, 0, 2, 0, 2, 0, 2, 0, 2, 0, 2, 0, 2, 0, 2, 0, 2, 0, 2, 0, 2, 0);
        Check.due("15 all rows", 12, () -> pairs.rowsForGroup(24));
        Check.notNow("15 beyond all rows", () -> pairs.rowsForGroup(25));
        Check.notNow("15 beyond all rows", () -> pairs.rowsForGroup(26));
    }

    private static void seats(String what, BoxofficeRow x, int people, int... want) {
        for (int row = 0; row < want.length; row++) {
            int at = row;
            Check.due(what + " " + people + " row " + row, want[row], () -> x.seatsForGroup(people, at));
        }
    }

    private static void promise16SeatsForGroup() {
        BoxofficeRow x = hall(4, 10, 6, 20, 1, 900, 3, 10);
        seats("16 best row", x, 3, 0, 3, 0, 0);
        seats("16 most of the better row", x, 7, 2, 5, 0, 0);
        seats("16 two rows at most", x, 10, 4, 6, 0, 0);
        seats("16 all rows", x, 13, 4, 6, 0, 3);
        Check.notNow("16 cannot be split", () -> x.seatsForGroup(14, 0));
        Check.noSuch("16 row", () -> x.seatsForGroup(3, 4));
        Check.noSuch("16 row", () -> x.seatsForGroup(3, -1));
        Check.noSuch("16 row before people", () -> x.seatsForGroup(1, 4));
        Check.noSuch("16 row before state", () -> x.seatsForGroup(50, 4));
        for (int people : NO_PEOPLE) {
            Check.outOfRange("16 people", () -> x.seatsForGroup(people, 0));
        }
        BoxofficeRow low = hall(6, 0, 3, 1000);
        seats("16 fewer rows before value", low, 6, 6, 0);
        seats("16 at least two from a row", low, 8, 5, 3);
        BoxofficeRow negative = hall(20, 0, 20, 0);
        seats("16 negative values", negative, 20, 20, 0);
        seats("16 negative values", negative, 21, 11, 10);
        BoxofficeRow broken = hall(7, 10, 3, 10);
        broken.toggleBlocked(0, 3);
        seats("16 one block from a row", broken, 5, 2, 3);
        Check.notNow("16 not two blocks from a row", () -> broken.seatsForGroup(7, 0));
        Check.notNow("16 no single seat from a row", () -> broken.seatsForGroup(7, 1));
    }

    private static void promise16Ties() {
        BoxofficeRow x = hall(5, 10, 5, 10, 5, 10);
        seats("16 lowest row", x, 4, 4, 0, 0);
        seats("16 lowest row takes more", x, 7, 4, 3, 0);
        seats("16 of three rows", x, 11, 5, 3, 3);
        BoxofficeRow gap = hall(2, 10, 5, 10, 2, 10);
        seats("16 first of the outer rows", gap, 7, 2, 5, 0);
        BoxofficeRow even = hall(4, 50, 4, 50);
        seats("16 even rows", even, 6, 4, 2);
        seats("16 even rows", even, 5, 3, 2);
    }

    private static void promise17HoldGroup() {
        BoxofficeRow x = hall(4, 10, 6, 20, 1, 900, 3, 10);
        x.toggleBlocked(0, 0);
        Check.due("17 ticket", 1, () -> x.holdGroup(7, 30));
        Check.due("17 best two, not from the left", 0, () -> x.ticketAt(0, 3));
        Check.due("17 best two", 1, () -> x.ticketAt(0, 1));
        Check.due("17 best two", 1, () -> x.ticketAt(0, 2));
        Check.due("17 five of six, lowest first", 1, () -> x.ticketAt(1, 0));
        Check.due("17 five of six", 1, () -> x.ticketAt(1, 4));
        Check.due("17 five of six", 0, () -> x.ticketAt(1, 5));
        Check.due("17 orphan left", 3, () -> x.orphans());
        Check.due("17 seats", 7, () -> x.seatsOf(1));
        Check.due("17 price", 2 * 10 + 5 * 12, () -> x.priceOf(1));
        Check.due("17 lasts", 30, () -> x.nextExpiry());
        Check.notNow("17 cannot be split", () -> x.holdGroup(4, 30));
        for (int people : NO_PEOPLE) {
            Check.outOfRange("17 people", () -> x.holdGroup(people, 30));
        }
        for (int wrong : NO_MINUTES) {
            Check.outOfRange("17 minutes", () -> x.holdGroup(2, wrong));
            Check.outOfRange("17 minutes before state", () -> x.holdGroup(90, wrong));
        }
        Check.due("17 refused change nothing", 1, () -> x.tickets());
        Check.due("17 paid", 80, () -> x.pay(1));
        Check.notNow("17 several rows, no wish", () -> x.wish(1, 3));
        Check.due("17 cancelled", 80, () -> x.cancel(1));
        Check.due("17 all seats free", 3, () -> x.freeSeats(0));
        Check.due("17 all seats free", 6, () -> x.freeSeats(1));
    }

    private static void promise17OneRow() {
        BoxofficeRow x = hall(5, 10, 5, 20);
        Check.due("17 one row", 1, () -> x.holdGroup(3, 200));
        Check.due("17 orphans do not matter", 0, () -> x.ticketAt(1, 0));
        Check.due("17 middle", 1, () -> x.ticketAt(1, 1));
        Check.due("17 middle", 1, () -> x.ticketAt(1, 3));
        x.pass(199);
        Check.due("17 not yet run out", 0, () -> x.ticketState(1));
        Check.due("17 runs out", 1, () -> x.pass(1));
        Check.due("17 ran out", 2, () -> x.ticketState(1));
        Check.due("17 seats free", 5, () -> x.freeSeats(1));
    }

    private static void hundredTickets() {
        BoxofficeRow x = hall(4, 10, 4, 10);
        for (int ticket = 1; ticket <= 100; ticket++) {
            int want = ticket;
            int way = ticket % 3;
            Check.due("13 14 17 ticket", want,
                () -> way == 0 ? x.hold(2, 5) : way == 1 ? x.holdAt(1, 2, 2, 5) : x.holdGroup(5, 5));
            x.cancel(ticket);
        }
        Check.due("18 a hundred", 100, () -> x.tickets());
        Check.notNow("13 the hundred and first", () -> x.hold(2, 5));
        Check.notNow("14 the hundred and first", () -> x.holdAt(1, 2, 2, 5));
        Check.notNow("17 the hundred and first", () -> x.holdGroup(5, 5));
        Check.outOfRange("13 argument first", () -> x.hold(0, 5));
        Check.outOfRange("14 argument first", () -> x.holdAt(1, 2, 2, 0));
        Check.noSuch("14 row first", () -> x.holdAt(2, 2, 2, 5));
        Check.outOfRange("17 argument first", () -> x.holdGroup(1, 5));
        Check.due("18 still a hundred", 100, () -> x.tickets());
        Check.due("13 14 17 seats still free", 4, () -> x.freeSeats(1));
        Check.due("15 still answers", 2, () -> x.rowsForGroup(5));
    }
}
