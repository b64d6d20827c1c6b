/** Promises 29 and 30: wishes and exchanges. */
public final class ExchangesTest {
    public static void main(String[] args) {
        promise29Wish();
        promise29Refused();
        promise30FreeSeats();
        promise30FreeSeatsOrphansDoNotMatter();
        promise30TakesOver();
        promise30Ring();
        promise30ShortestFirst();
        promise30LowestTickets();
        promise30LowestAtTheFirstDifference();
        promise30FreeSeatsBeforeRing();
        promise30OnlySeatsFreeBefore();
        promise30Sizes();
        promise30Refused();
        promise30WishesEnd();
        promise30LongChain();
        Check.end("ExchangesTest");
    }

    private static BoxofficeRow rowsOf(int... seats) {
        BoxofficeRow x = new BoxofficeRow();
        for (int row = 0; row < seats.length; row++) {
            x.addRow(seats[row], 50, row + 1);
        }
        return x;
    }

    private static int book(BoxofficeRow x, int row, int first, int seats) {
        int ticket = x.holdAt(row, first, seats, 1);
        x.pay(ticket);
        return ticket;
    }

    private static void at(String what, BoxofficeRow x, int row, int... tickets) {
        for (int seat = 0; seat < tickets.length; seat++) {
            int place = seat;
            Check.due(what + " row " + row + " seat " + seat, tickets[seat], () -> x.ticketAt(row, place));
        }
    }

    private static void promise29Wish() {
        BoxofficeRow x = rowsOf(3, 3, 3);
        book(x, 0, 0, 2);
        Check.due("29 first", -1, () -> x.wish(1, 1));
        Check.due("29 again", 1, () -> x.wish(1, 1));
        Check.due("29 another", 1, () -> x.wish(1, 2));
        Check.due("29 back", 2, () -> x.wish(1, 1));
        x.holdGroup(2, 5);
        x.pay(2);
        Check.due("29 group in one row", -1, () -> x.wish(2, 2));
        Check.due("29 changes no seat", 1, () -> x.ticketAt(0, 0));
    }

    private static void promise29Refused() {
        BoxofficeRow x = rowsOf(3, 3, 3);
        book(x, 0, 0, 2);
        x.holdAt(1, 0, 1, 50);
        Check.notNow("29 hold", () -> x.wish(2, 0));
        Check.notNow("29 sits there", () -> x.wish(1, 0));
        Check.noSuch("29 row", () -> x.wish(1, 3));
        Check.noSuch("29 row", () -> x.wish(1, -1));
        Check.noSuch("29 row before state", () -> x.wish(2, 3));
        Check.noSuch("29 ticket", () -> x.wish(0, 1));
        Check.noSuch("29 ticket", () -> x.wish(3, 1));
        Check.noSuch("29 ticket", () -> x.wish(-1, 1));
        x.holdGroup(4, 50);
        x.pay(3);
        Check.notNow("29 several rows", () -> x.wish(3, 0));
        Check.due("29 refused set nothing", -1, () -> x.wish(1, 2));
        x.cancel(1);
        Check.notNow("29 closed", () -> x.wish(1, 1));
        x.pass(50);
        Check.notNow("29 ran out", () -> x.wish(2, 0));
    }

    private static void promise30FreeSeats() {
        BoxofficeRow x = rowsOf(5, 6);
        book(x, 0, 3, 2);
        x.wish(1, 1);
        Check.due("30 one booking", 1, () -> x.exchange(1));
        at("30 greatest value", x, 1, 0, 0, 1, 1, 0, 0);
        at("30 former seats free", x, 0, 0, 0, 0, 0, 0);
        Check.due("30 sold", 2, () -> x.state(1, 2));
        Check.due("30 former seats free", 5, () -> x.freeSeats(0));
        Check.due("30 same ticket", 1, () -> x.tickets());
        Check.due("30 still a booking", 1, () -> x.ticketState(1));
        Check.due("30 same seats", 2, () -> x.seatsOf(1));
        Check.due("30 price now", 4, () -> x.priceOf(1));
        Check.due("30 no money", 2, () -> x.takings());
        Check.notNow("30 sits there now", () -> x.wish(1, 1));
        Check.due("30 can wish its old row", -1, () -> x.wish(1, 0));
    }

    private static void promise30FreeSeatsOrphansDoNotMatter() {
        BoxofficeRow x = rowsOf(1, 4);
        book(x, 0, 0, 1);
        x.wish(1, 1);
        Check.due("30 best single", 1, () -> x.exchange(1));
        at("30 leaves an orphan", x, 1, 0, 1, 0, 0);
    }

    private static void promise30TakesOver() {
        BoxofficeRow x = rowsOf(2, 2, 4);
        book(x, 0, 0, 2);
        book(x, 1, 0, 2);
        x.wish(1, 1);
        Check.notNow("30 the one behind has no wish", () -> x.exchange(1));
        x.wish(2, 2);
        Check.due("30 two", 2, () -> x.exchange(1));
        at("30 first moved on", x, 1, 1, 1);
        at("30 last into free seats", x, 2, 0, 2, 2, 0);
        at("30 former seats free", x, 0, 0, 0);
        Check.due("30 free", 0, () -> x.state(0, 0));
        Check.due("30 no wish left", -1, () -> x.wish(1, 2));
        Check.due("30 no wish left", -1, () -> x.wish(2, 1));
    }

    private static void promise30Ring() {
        BoxofficeRow x = rowsOf(3, 3, 3);
        book(x, 0, 1, 2);
        book(x, 1, 0, 2);
        book(x, 2, 1, 2);
        x.wish(1, 1);
        x.wish(2, 2);
        x.wish(3, 0);
        Check.due("30 ring of three", 3, () -> x.exchange(2));
        at("30 ring", x, 0, 0, 3, 3);
        at("30 ring", x, 1, 1, 1, 0);
        at("30 ring", x, 2, 0, 2, 2);
        Check.notNow("30 no wish", () -> x.exchange(1));
        Check.notNow("30 no wish", () -> x.exchange(2));
        Check.notNow("30 no wish", () -> x.exchange(3));
        Check.due("30 takings", 12, () -> x.takings());
        Check.due("30 what was paid", 2, () -> x.cancel(1));
        at("30 new seats freed", x, 1, 0, 0, 0);
        at("30 others stay", x, 0, 0, 3, 3);
    }

    /** A chain of two through a higher ticket goes before a chain of three through lower ones. */
    private static void promise30ShortestFirst() {
        BoxofficeRow x = rowsOf(1, 2, 1, 1);
        book(x, 0, 0, 1);
        book(x, 1, 0, 1);
        book(x, 2, 0, 1);
        book(x, 1, 1, 1);
        x.wish(1, 1);
        x.wish(2, 2);
        x.wish(3, 3);
        x.wish(4, 3);
        Check.due("30 shortest", 2, () -> x.exchange(1));
        at("30 shortest", x, 1, 2, 1);
        at("30 shortest", x, 3, 4);
        at("30 shortest", x, 0, 0);
        Check.due("30 others keep their wish", 2, () -> x.wish(2, 2));
        Check.due("30 others keep their wish", 3, () -> x.wish(3, 3));
    }

    private static void promise30LowestTickets() {
        BoxofficeRow x = rowsOf(1, 3, 5);
        book(x, 0, 0, 1);
        book(x, 1, 2, 1);
        book(x, 1, 0, 1);
        book(x, 1, 1, 1);
        x.wish(1, 1);
        x.wish(4, 2);
        x.wish(3, 2);
        Check.due("30 two", 2, () -> x.exchange(1));
        at("30 lowest ticket with a wish", x, 1, 1, 4, 2);
        at("30 lowest ticket with a wish", x, 2, 0, 0, 3, 0, 0);
    }

    /** The second place decides, though the third would be lower on the other way. */
    private static void promise30LowestAtTheFirstDifference() {
        BoxofficeRow x = rowsOf(1, 2, 1, 1, 1);
        book(x, 2, 0, 1);
        book(x, 0, 0, 1);
        book(x, 1, 0, 1);
        book(x, 1, 1, 1);
        book(x, 3, 0, 1);
        x.wish(1, 4);
        x.wish(2, 1);
        x.wish(3, 3);
        x.wish(4, 2);
        x.wish(5, 4);
        Check.due("30 three", 3, () -> x.exchange(2));
        at("30 first difference", x, 1, 2, 4);
        at("30 first difference", x, 3, 3);
        at("30 first difference", x, 4, 5);
        at("30 first difference", x, 2, 1);
    }

    private static void promise30FreeSeatsBeforeRing() {
        BoxofficeRow x = rowsOf(4, 1);
        book(x, 0, 0, 1);
        book(x, 1, 0, 1);
        x.wish(1, 1);
        x.wish(2, 0);
        Check.due("30 two", 2, () -> x.exchange(1));
        at("30 free seats go before the ring", x, 0, 0, 2, 0, 0);
        at("30 free seats go before the ring", x, 1, 1);
    }

    /** Together with the first booking's seats there would be a better block, but they are not free before. */
    private static void promise30OnlySeatsFreeBefore() {
        BoxofficeRow x = rowsOf(5, 2);
        book(x, 0, 1, 2);
        book(x, 1, 0, 2);
        x.wish(1, 1);
        x.wish(2, 0);
        Check.due("30 two", 2, () -> x.exchange(1));
        at("30 free before", x, 0, 0, 0, 0, 2, 2);
        at("30 free before", x, 1, 1, 1);
        BoxofficeRow y = rowsOf(3, 2);
        book(y, 0, 0, 2);
        book(y, 1, 0, 2);
        y.wish(1, 1);
        y.wish(2, 0);
        Check.due("30 no free block, so a ring", 2, () -> y.exchange(2));
        at("30 ring takes the very block", y, 0, 2, 2, 0);
        at("30 ring takes the very block", y, 1, 1, 1);
    }

    private static void promise30Sizes() {
        BoxofficeRow x = rowsOf(2, 3, 4);
        book(x, 0, 0, 2);
        book(x, 1, 0, 3);
        x.wish(1, 1);
        x.wish(2, 2);
        Check.notNow("30 another number of seats", () -> x.exchange(1));
        Check.due("30 alone", 1, () -> x.exchange(2));
        Check.due("30 now there is room", 1, () -> x.exchange(1));
        at("30 now there is room", x, 1, 1, 1, 0);
        at("30 lowest first of the best", x, 2, 2, 2, 2, 0);
    }

    private static void promise30Refused() {
        BoxofficeRow x = rowsOf(2, 2, 2);
        book(x, 0, 0, 2);
        x.holdAt(1, 0, 2, 200);
        Check.noSuch("30 ticket", () -> x.exchange(0));
        Check.noSuch("30 ticket", () -> x.exchange(3));
        Check.noSuch("30 ticket", () -> x.exchange(-1));
        Check.notNow("30 no wish", () -> x.exchange(1));
        Check.notNow("30 hold", () -> x.exchange(2));
        x.wish(1, 1);
        Check.notNow("30 a hold is in the way", () -> x.exchange(1));
        x.cancel(2);
        x.toggleBlocked(1, 1);
        Check.notNow("30 a blocked seat is in the way", () -> x.exchange(1));
        at("30 refused changes nothing", x, 0, 1, 1);
        Check.due("30 refused keeps the wish", 1, () -> x.wish(1, 1));
        x.cancel(1);
        Check.notNow("30 closed", () -> x.exchange(1));
        x.toggleBlocked(1, 1);
        book(x, 0, 0, 2);
        book(x, 1, 0, 2);
        x.wish(3, 1);
        x.wish(4, 2);
        x.cancel(4);
        Check.due("30 a cancelled booking is no chain's", 1, () -> x.exchange(3));
        at("30 a cancelled booking is no chain's", x, 2, 0, 0);
        promise30Cancelled();
    }

    private static void promise30Cancelled() {
        BoxofficeRow x = rowsOf(2, 2, 2);
        book(x, 0, 0, 2);
        book(x, 1, 0, 2);
        x.wish(1, 1);
        x.wish(2, 2);
        x.cancel(2);
        Check.notNow("30 closed, though it had a wish", () -> x.exchange(2));
        at("30 closed, though it had a wish", x, 2, 0, 0);
        x.holdAt(1, 0, 2, 200);
        Check.notNow("30 nobody there with a wish", () -> x.exchange(1));
        x.pay(3);
        Check.notNow("30 a booking without a wish", () -> x.exchange(1));
        x.wish(3, 2);
        Check.due("30 now there is a chain", 2, () -> x.exchange(1));
    }

    private static void promise30WishesEnd() {
        BoxofficeRow x = rowsOf(2, 2, 2, 2);
        book(x, 0, 0, 2);
        x.wish(1, 1);
        x.exchange(1);
        Check.notNow("30 wish is gone", () -> x.exchange(1));
        Check.due("30 wish is gone", -1, () -> x.wish(1, 0));
        BoxofficeRow y = rowsOf(2, 2, 4);
        book(y, 0, 0, 2);
        book(y, 1, 0, 2);
        y.wish(1, 1);
        y.wish(2, 0);
        y.holdGroup(4, 5);
        y.pay(3);
        Check.due("30 a group that sits in one row may wish", 3 - 4, () -> y.wish(3, 0));
        Check.notNow("30 but no chain for it", () -> y.exchange(3));
        Check.due("30 ring of two", 2, () -> y.exchange(1));
        at("30 ring of two", y, 0, 2, 2);
        at("30 ring of two", y, 1, 1, 1);
    }

    private static void promise30LongChain() {
        BoxofficeRow x = rowsOf(1, 1, 1, 1, 1, 1, 1, 1, 1, 1, 1, 1);
        for (int row = 0; row < 12; row++) {
            book(x, row, 0, 1);
            x.wish(row + 1, (row + 1) % 12);
        }
        Check.due("30 ring of twelve", 12, () -> x.exchange(5));
        for (int row = 0; row < 12; row++) {
            at("30 ring of twelve", x, row, row == 0 ? 12 : row);
        }
        for (int ticket = 1; ticket <= 12; ticket++) {
            int one = ticket;
            Check.notNow("30 no wish left", () -> x.exchange(one));
        }
        for (int ticket = 1; ticket < 12; ticket++) {
            x.wish(ticket, ticket + 1 < 12 ? ticket + 1 : 0);
        }
        x.cancel(12);
        Check.due("30 eleven into a free seat", 11, () -> x.exchange(1));
        at("30 eleven into a free seat", x, 1, 0);
        at("30 eleven into a free seat", x, 2, 1);
        at("30 eleven into a free seat", x, 0, 11);
    }
}
