/** Promises 29 and 30, and what "Terms" says of wishes and chains: a method for each sentence that names a boundary case. */
public final class ExchangeBoundariesTest {
    private static final Scene NEW = Scene.after();
    private static final Scene TWELVE_ROWS = Scene.after(Scene.times(12, "addRow 1 50 3"));
    /** Ticket 1 is a booking of row 0, ticket 2 is a hold of row 1, ticket 3 a booking of rows 0 and 2. */
    private static final Scene MIXED = Scene.after("addRow 3 50 1", "addRow 3 50 10", "addRow 3 50 100", booked(1, 0, 0, 1),
        "holdAt 1 0 3 50", "holdGroup 5 50", "pay 3");
    /** A full ring: ticket t sits alone in row t - 1 and wishes for the next row, the last one for row 0. */
    private static final Scene RING = TWELVE_ROWS.and(ring());

    public static void main(String[] args) {
        promise29NoneWishedBefore();
        promise29NoSuchTicket();
        promise29NoSuchRow();
        promise29NoBooking();
        promise29SeatsInSeveralRows();
        promise29SitsInThatRow();
        termsGroupOfOneRowMayWish();
        promise30NoSuchTicket();
        promise30NoWish();
        promise30NoSuchChain();
        termsChainOfOne();
        termsAsManySeatsAsItHas();
        termsGreatestValueInThatRow();
        termsLowestFirstSeatInThatRow();
        termsOnlySeatsFreeBefore();
        termsOnlyBookingsWithAWish();
        termsTakesOverTheBlockOfTheFirst();
        termsLongestRing();
        termsLongestChainIntoFreeSeats();
        termsRoundWithoutTheFirst();
        promise30Shortest();
        promise30LowestTicketAtTheFirstPlace();
        promise30FreeSeatsBeforeTheFirstBlock();
        termsNoWishAnyMore();
        termsTicketsStayTheSame();
        termsFormerSeatsBecomeFree();
        termsNoMoney();
        termsAgainAfterAnExchange();
        termsAgainAfterAChain();
        termsAgainAfterALongerChain();
        termsAgainAfterARing();
        termsHundredBookings();
        Check.end("ExchangeBoundariesTest");
    }

    private static String booked(int ticket, int row, int first, int seats) {
        return "; holdAt " + row + " " + first + " " + seats + " 200; pay " + ticket;
    }

    private static String ring() {
        StringBuilder calls = new StringBuilder();
        for (int ticket = 1; ticket <= 12; ticket++) {
            calls.append(booked(ticket, ticket - 1, 0, 1)).append("; wish ").append(ticket).append(' ').append(ticket % 12);
        }
        return calls.toString();
    }

    private static Scene rows(int... seats) {
        StringBuilder calls = new StringBuilder();
        for (int row = 0; row < seats.length; row++) {
            calls.append("; addRow ").append(seats[row]).append(" 50 ").append(row + 1);
        }
        return Scene.after(calls.toString());
    }

    /** The tickets of a row's seats after a call, 0 where none is. */
    private static void tickets(Scene scene, int row, int... tickets) {
        for (int seat = 0; seat < tickets.length; seat++) {
            scene.due(tickets[seat], "ticketAt " + row + " " + seat);
            scene.due(tickets[seat] == 0 ? 0 : 2, "state " + row + " " + seat);
        }
    }

    // ---- 29: wish

    /** "Returns the row wished before, -1 if there was no wish." */
    private static void promise29NoneWishedBefore() {
        MIXED.due(-1, "wish 1 1", "wish 1 2");
        MIXED.due(1, "wish 1 1; wish 1 1", "wish 1 1; wish 1 2", "wish 1 2; wish 1 1; wish 1 2");
        MIXED.due(2, "wish 1 2; wish 1 1");
        RING.due(11, "wish 11 0");
        RING.due(0, "wish 12 10", "wish 12 10; wish 11 0; wish 11 3");
    }

    /** "Throws IndexOutOfBoundsException if there is no such ticket or row". */
    private static void promise29NoSuchTicket() {
        MIXED.due(Scene.NO_SUCH, Scene.each("wish # 1", 0, 4, -1, 100, 101, Scene.LEAST, Scene.MOST));
        NEW.due(Scene.NO_SUCH, "wish 1 0", "wish 0 0");
        RING.due(Scene.NO_SUCH, "wish 0 1", "wish 13 1");
    }

    private static void promise29NoSuchRow() {
        MIXED.due(Scene.NO_SUCH, Scene.each("wish 1 #", -1, 3, 12, Scene.LEAST, Scene.MOST));
        MIXED.and("wish 1 1").due(Scene.NO_SUCH, "wish 1 -1", "wish 1 3");
        RING.due(Scene.NO_SUCH, "wish 1 -1", "wish 1 12");
        RING.due(1, "wish 1 11");
    }

    /** "IllegalStateException if the ticket is no booking": a hold, and closed in each way. */
    private static void promise29NoBooking() {
        MIXED.due(Scene.NOT_NOW, "wish 2 0", "wish 2 2");
        MIXED.and("cancel 1").due(Scene.NOT_NOW, "wish 1 1", "wish 1 0");
        MIXED.and("wish 1 1", "cancel 1").due(Scene.NOT_NOW, "wish 1 2");
        MIXED.and("cancel 2").due(Scene.NOT_NOW, "wish 2 0");
        MIXED.and("pass 50").due(Scene.NOT_NOW, "wish 2 0");
        MIXED.due(-1, "pass 49; pay 2; wish 2 0");
    }

    private static void promise29SeatsInSeveralRows() {
        MIXED.due(Scene.NOT_NOW, "wish 3 0", "wish 3 1", "wish 3 2");
        Scene.after(Scene.times(12, "addRow 2 5 5"), "holdGroup 24 9", "pay 1").due(Scene.NOT_NOW, "wish 1 0", "wish 1 11");
    }

    private static void promise29SitsInThatRow() {
        MIXED.due(Scene.NOT_NOW, "wish 1 0");
        MIXED.and("wish 1 1").due(Scene.NOT_NOW, "wish 1 0");
        RING.due(Scene.NOT_NOW, "wish 1 0", "wish 12 11");
    }

    /** "A booking whose seats are one block, also that of a group whose split used one row, may have a wish". */
    private static void termsGroupOfOneRowMayWish() {
        Scene group = rows(4, 3).and("holdGroup 3 9", "pay 1");
        tickets(group, 1, 1, 1, 1);
        group.due(-1, "wish 1 0");
        group.due(Scene.NOT_NOW, "wish 1 1");
        Scene moved = group.and("wish 1 0", "exchange 1");
        tickets(moved, 0, 1, 1, 1, 0);
        tickets(moved, 1, 0, 0, 0);
        Scene between = rows(3, 4, 4).and("holdGroup 4 9", "pay 1");
        between.due(1, "ticketAt 1 0");
        between.due(Scene.NOT_NOW, "wish 1 1");
        tickets(between.and("wish 1 2", "exchange 1"), 1, 0, 0, 0, 0);
    }

    // ---- 30: exchange

    private static void promise30NoSuchTicket() {
        MIXED.due(Scene.NO_SUCH, Scene.each("exchange #", 0, 4, -1, 100, 101, Scene.LEAST, Scene.MOST));
        NEW.due(Scene.NO_SUCH, "exchange 0", "exchange 1");
        RING.due(Scene.NO_SUCH, "exchange 0", "exchange 13");
    }

    /** "Throws IllegalStateException if the ticket has no wish": a booking without, a hold, a closed ticket. */
    private static void promise30NoWish() {
        MIXED.due(Scene.NOT_NOW, "exchange 1", "exchange 2", "exchange 3");
        MIXED.and("wish 1 2", "cancel 1").due(Scene.NOT_NOW, "exchange 1");
        MIXED.and("wish 1 2", "cancel 3", "exchange 1").due(Scene.NOT_NOW, "exchange 1");
        MIXED.and("pass 50").due(Scene.NOT_NOW, "exchange 2");
    }

    /** "or there is no such chain": held, sold without a wish, blocked. */
    private static void promise30NoSuchChain() {
        Scene wishes = rows(1, 1).and(booked(1, 0, 0, 1), "wish 1 1");
        wishes.and("holdAt 1 0 1 50").due(Scene.NOT_NOW, "exchange 1", "pass 49; exchange 1");
        wishes.and(booked(2, 1, 0, 1)).due(Scene.NOT_NOW, "exchange 1");
        wishes.and("toggleBlocked 1 0").due(Scene.NOT_NOW, "exchange 1");
        wishes.due(1, "exchange 1", "holdAt 1 0 1 50; pass 50; exchange 1", "holdAt 1 0 1 50; cancel 2; exchange 1",
            "toggleBlocked 1 0; toggleBlocked 1 0; exchange 1");
    }

    /** "A chain of one booking moves into free seats." */
    private static void termsChainOfOne() {
        Scene one = rows(3, 3).and(booked(1, 0, 0, 2), "wish 1 1");
        one.due(1, "exchange 1");
        Scene moved = one.and("exchange 1");
        tickets(moved, 0, 0, 0, 0);
        tickets(moved, 1, 1, 1, 0);
    }

    /** "each gets as many seats as it has": one seat less in that row, a booking of one more or less there. */
    private static void termsAsManySeatsAsItHas() {
        Scene wishes = rows(3, 3, 4).and(booked(1, 0, 0, 3), "wish 1 1");
        wishes.due(1, "exchange 1");
        wishes.and("toggleBlocked 1 0").due(Scene.NOT_NOW, "exchange 1");
        wishes.and("toggleBlocked 1 1").due(Scene.NOT_NOW, "exchange 1");
        wishes.and("toggleBlocked 1 2").due(Scene.NOT_NOW, "exchange 1");
        wishes.and(booked(2, 1, 0, 2), "wish 2 2").due(Scene.NOT_NOW, "exchange 1");
        wishes.and(booked(2, 1, 0, 2), "wish 2 0").due(Scene.NOT_NOW, "exchange 1", "exchange 2");
        wishes.and(booked(2, 1, 0, 3), "wish 2 2").due(2, "exchange 1");
        Scene larger = rows(2, 3, 4).and(booked(1, 0, 0, 2), "wish 1 1", booked(2, 1, 0, 3), "wish 2 2");
        larger.due(Scene.NOT_NOW, "exchange 1");
        larger.due(1, "exchange 2", "exchange 2; exchange 1");
    }

    private static void termsGreatestValueInThatRow() {
        Scene one = rows(1, 5).and(booked(1, 0, 0, 1), "wish 1 1");
        tickets(one.and("exchange 1"), 1, 0, 0, 1, 0, 0);
        tickets(one.and("holdAt 1 2 1 9", "pay 2", "exchange 1"), 1, 0, 1, 2, 0, 0);
        tickets(one.and("holdAt 1 1 2 9", "pay 2", "exchange 1"), 1, 0, 2, 2, 1, 0);
        Scene pair = rows(2, 4).and(booked(1, 0, 0, 2), "wish 1 1", "exchange 1");
        tickets(pair, 1, 0, 1, 1, 0);
        pair.due(2, "orphans");
    }

    /** "of several the one whose first seat has the lowest number". */
    private static void termsLowestFirstSeatInThatRow() {
        tickets(rows(2, 5).and(booked(1, 0, 0, 2), "wish 1 1", "exchange 1"), 1, 0, 1, 1, 0, 0);
        tickets(rows(1, 4).and(booked(1, 0, 0, 1), "wish 1 1", "exchange 1"), 1, 0, 1, 0, 0);
    }

    /** "only seats that are free before the exchange count". */
    private static void termsOnlySeatsFreeBefore() {
        Scene middle = rows(3, 1).and(booked(1, 0, 1, 1), "wish 1 1", booked(2, 1, 0, 1), "wish 2 0", "exchange 1");
        tickets(middle, 0, 2, 0, 0);
        tickets(middle, 1, 1);
        Scene pair = rows(3, 2).and(booked(1, 0, 0, 2), "wish 1 1", booked(2, 1, 0, 2), "wish 2 0", "exchange 1");
        tickets(pair, 0, 2, 2, 0);
        tickets(pair, 1, 1, 1);
        Scene longer = rows(4, 2).and(booked(1, 0, 2, 2), "wish 1 1", booked(2, 1, 0, 2), "wish 2 0", "exchange 1");
        tickets(longer, 0, 2, 2, 0, 0);
    }

    /** "Each booking of the chain has a wish": one without is no part of it, nor one that is closed, nor a hold. */
    private static void termsOnlyBookingsWithAWish() {
        Scene three = rows(1, 1, 2).and(booked(1, 0, 0, 1), "wish 1 1", booked(2, 1, 0, 1));
        three.due(Scene.NOT_NOW, "exchange 1");
        three.due(2, "wish 2 2; exchange 1");
        three.due(1, "wish 2 2; cancel 2; exchange 1");
        Scene closed = rows(1, 1, 2).and(booked(1, 0, 0, 1), "wish 1 1", booked(2, 1, 0, 1), "wish 2 2", "cancel 2",
            "holdAt 1 0 1 50");
        closed.due(Scene.NOT_NOW, "exchange 1", "exchange 2", "exchange 3");
        Scene several = rows(2, 2, 2).and(booked(1, 0, 0, 2), "holdGroup 4 9", "pay 2", "wish 1 1");
        several.due(Scene.NOT_NOW, "exchange 1");
    }

    /** "or takes over the block of the first one". */
    private static void termsTakesOverTheBlockOfTheFirst() {
        Scene two = rows(2, 2).and(booked(1, 0, 0, 2), "wish 1 1", booked(2, 1, 0, 2), "wish 2 0");
        two.due(2, "exchange 1", "exchange 2", "exchange 1; ticketAt 0 0", "exchange 2; ticketAt 0 1");
        two.due(1, "exchange 1; ticketAt 1 0", "exchange 2; ticketAt 1 1");
        Scene others = rows(2, 2).and(booked(1, 0, 1, 1), "wish 1 1", booked(2, 1, 1, 1), "wish 2 0",
            "toggleBlocked 0 0", "toggleBlocked 1 0", "exchange 2");
        others.due(2, "ticketAt 0 1");
        others.due(1, "ticketAt 1 1");
        others.due(0, "ticketAt 0 0", "ticketAt 1 0");
    }

    private static void termsLongestRing() {
        for (int first : new int[] {1, 6, 12}) {
            RING.due(12, "exchange " + first);
            Scene after = RING.and("exchange " + first);
            for (int row = 0; row < 12; row++) {
                tickets(after, row, row == 0 ? 12 : row);
            }
            after.due(Scene.NOT_NOW, Scene.each("exchange #", Scene.from(1, 12)));
        }
        RING.and("cancel 7").due(6, "exchange 1", "exchange 1; exchange 8; ticketAt 6 0");
    }

    private static void termsLongestChainIntoFreeSeats() {
        Scene free = Scene.after("addRow 2 50 3", Scene.times(11, "addRow 1 50 3"), ring());
        free.due(12, "exchange 1", "exchange 1; ticketAt 0 1");
        free.due(0, "exchange 1; ticketAt 0 0");
        free.due(11, "exchange 2", "exchange 1; ticketAt 11 0");
        free.due(1, "exchange 12", "exchange 1; ticketAt 1 0");
    }

    /** Bookings that only wish for each other's rows are no end for a chain that comes from outside. */
    private static void termsRoundWithoutTheFirst() {
        Scene round = rows(1, 1, 1).and(booked(1, 0, 0, 1), "wish 1 1", booked(2, 1, 0, 1), "wish 2 2", booked(3, 2, 0, 1),
            "wish 3 1");
        round.due(Scene.NOT_NOW, "exchange 1");
        round.due(2, "exchange 2", "exchange 3", "exchange 3; ticketAt 2 0");
        round.due(3, "wish 3 0; exchange 1", "exchange 2; ticketAt 1 0");
    }

    private static void promise30Shortest() {
        Scene way = rows(1, 2, 1, 1).and(booked(1, 0, 0, 1), "wish 1 1", booked(2, 1, 0, 1), "wish 2 2", booked(3, 2, 0, 1),
            "wish 3 3", booked(4, 1, 1, 1), "wish 4 3");
        way.due(2, "exchange 1", "exchange 1; ticketAt 1 0");
        way.due(1, "exchange 1; ticketAt 1 1");
        way.due(4, "exchange 1; ticketAt 3 0");
        way.due(3, "cancel 4; toggleBlocked 1 1; exchange 1");
    }

    /** "of several such chains the one that has the lowest ticket at the first place at which their tickets differ". */
    private static void promise30LowestTicketAtTheFirstPlace() {
        Scene two = rows(1, 2, 3).and(booked(1, 1, 1, 1), booked(2, 1, 0, 1), booked(3, 0, 0, 1), "wish 3 1", "wish 1 2",
            "wish 2 2");
        two.due(2, "exchange 3");
        tickets(two.and("exchange 3"), 1, 2, 3);
        tickets(two.and("exchange 3"), 2, 0, 1, 0);
        Scene three = rows(1, 2, 1, 1, 1).and(booked(1, 2, 0, 1), booked(2, 0, 0, 1), booked(3, 1, 0, 1), booked(4, 1, 1, 1),
            booked(5, 3, 0, 1), "wish 1 4", "wish 2 1", "wish 3 3", "wish 4 2", "wish 5 4");
        three.due(3, "exchange 2");
        tickets(three.and("exchange 2"), 1, 2, 4);
        tickets(three.and("exchange 2"), 4, 5);
    }

    /** "if two chains have the same tickets, the one whose last booking moves into free seats". */
    private static void promise30FreeSeatsBeforeTheFirstBlock() {
        Scene two = rows(2, 1).and(booked(1, 0, 0, 1), "wish 1 1", booked(2, 1, 0, 1), "wish 2 0");
        two.due(2, "exchange 1");
        tickets(two.and("exchange 1"), 0, 0, 2);
        tickets(two.and("toggleBlocked 0 1", "exchange 1"), 0, 2);
        tickets(two.and("holdAt 0 1 1 9", "pay 3", "exchange 1"), 0, 2, 3);
        two.due(1, "exchange 2");
    }

    /** "After an exchange the bookings of the chain have no wish any more", all others keep theirs. */
    private static void termsNoWishAnyMore() {
        Scene three = rows(1, 1, 2, 1).and(booked(1, 0, 0, 1), "wish 1 1", booked(2, 1, 0, 1), "wish 2 2", booked(3, 3, 0, 1),
            "wish 3 0", "exchange 1");
        three.due(-1, "wish 1 2", "wish 2 1", "wish 2 0");
        three.due(0, "wish 3 2");
        three.due(Scene.NOT_NOW, "exchange 1", "exchange 2", "wish 1 1", "wish 2 2");
        three.due(1, "exchange 3");
    }

    private static void termsTicketsStayTheSame() {
        Scene two = rows(2, 2, 3).and(booked(1, 0, 0, 2), "wish 1 1", booked(2, 1, 0, 2), "wish 2 2", "exchange 1");
        two.due(2, "tickets", "seatsOf 1", "seatsOf 2", "state 1 0", "ticketAt 2 0");
        two.due(1, "ticketState 1", "ticketState 2", "ticketAt 1 1");
        two.due(4, "priceOf 1");
        two.due(6, "priceOf 2");
    }

    /** "the former seats of the first booking become free, if the last one moved into free seats". */
    private static void termsFormerSeatsBecomeFree() {
        Scene two = rows(2, 2, 2).and(booked(1, 0, 0, 2), "wish 1 1", booked(2, 1, 0, 2), "wish 2 2");
        two.due(0, "exchange 1; state 0 0", "exchange 1; ticketAt 0 1", "exchange 1; freeSeats 1");
        two.due(2, "exchange 1; freeSeats 0", "exchange 1; longestBlock");
        two.due(0, "wish 2 0; exchange 1; freeSeats 0", "wish 2 0; exchange 1; freeSeats 1");
        two.due(true, "exchange 1; toggleBlocked 0 0");
    }

    /** "No money is paid back or paid in addition." */
    private static void termsNoMoney() {
        Scene up = Scene.after("addRow 1 5 0", "addRow 1 5 10000", booked(1, 0, 0, 1), "wish 1 1", "exchange 1");
        up.due(0, "takings", "cancel 1", "cancel 1; takings");
        up.due(10000, "priceOf 1");
        Scene down = Scene.after("addRow 1 5 10000", "addRow 1 5 0", booked(1, 0, 0, 1), "wish 1 1", "exchange 1");
        down.due(10000, "takings", "cancel 1");
        down.due(0, "priceOf 1", "cancel 1; takings");
    }

    /** Where a booking has moved to is its place for the next wish, the next exchange and the cancelling. */
    private static void termsAgainAfterAnExchange() {
        Scene moved = rows(2, 2, 2).and(booked(1, 0, 0, 2), "wish 1 1", "exchange 1");
        moved.due(Scene.NOT_NOW, "wish 1 1");
        moved.due(-1, "wish 1 0", "wish 1 2");
        moved.due(2, "wish 1 0; exchange 1; freeSeats 1", "cancel 1; freeSeats 1");
        tickets(moved.and("wish 1 0", "exchange 1"), 0, 1, 1);
        Scene followed = moved.and("wish 1 2", booked(2, 0, 0, 2), "wish 2 1");
        followed.due(2, "exchange 2", "exchange 2; freeSeats 0", "exchange 2; ticketAt 1 0");
        followed.due(1, "exchange 1", "exchange 2; ticketAt 2 1");
    }

    /** The block that was taken over begins at another seat than the one that was left. */
    private static void termsAgainAfterAChain() {
        Scene chain = rows(3, 3, 3).and(booked(1, 0, 0, 2), "wish 1 1", booked(2, 1, 1, 2), "wish 2 2", "exchange 1");
        tickets(chain, 1, 0, 1, 1);
        tickets(chain, 2, 2, 2, 0);
        Scene back = chain.and("wish 1 0", "exchange 1");
        tickets(back, 0, 1, 1, 0);
        tickets(back, 1, 0, 0, 0);
        Scene behind = chain.and("wish 2 0", "exchange 2", "wish 1 2", "exchange 1");
        tickets(behind, 0, 2, 2, 0);
        tickets(behind, 1, 0, 0, 0);
        tickets(behind, 2, 1, 1, 0);
    }

    /** The bookings of the longer chain before are not in the shorter one. */
    private static void termsAgainAfterALongerChain() {
        Scene longer = rows(1, 1, 1, 2).and(booked(1, 0, 0, 1), "wish 1 1", booked(2, 1, 0, 1), "wish 2 2", booked(3, 2, 0, 1),
            "wish 3 3", "exchange 1");
        longer.due(3, "ticketAt 3 0");
        Scene shorter = longer.and("wish 1 0", "exchange 1");
        tickets(shorter, 0, 1);
        tickets(shorter, 1, 0);
        tickets(shorter, 2, 2);
        tickets(shorter, 3, 3, 0);
        shorter.due(-1, "wish 2 0", "wish 3 0");
    }

    private static void termsAgainAfterARing() {
        Scene ring = rows(3, 3).and(booked(1, 0, 0, 2), "wish 1 1", booked(2, 1, 1, 2), "wish 2 0", "exchange 1");
        tickets(ring, 0, 2, 2, 0);
        tickets(ring, 1, 0, 1, 1);
        Scene twice = ring.and("wish 1 0", "wish 2 1", "exchange 2");
        tickets(twice, 0, 1, 1, 0);
        tickets(twice, 1, 0, 2, 2);
        tickets(twice.and("cancel 2"), 1, 0, 0, 0);
    }

    /** All 100 tickets, ten in each of ten rows, wish for the next row. */
    private static void termsHundredBookings() {
        StringBuilder calls = new StringBuilder(Scene.times(10, "addRow 20 1000 10000"));
        for (int ticket = 1; ticket <= 100; ticket++) {
            calls.append(booked(ticket, (ticket - 1) / 10, (ticket - 1) % 10 * 2, 2));
            calls.append("; wish ").append(ticket).append(' ').append(((ticket - 1) / 10 + 1) % 10);
        }
        Scene all = Scene.after(calls.toString());
        all.due(10, "exchange 1", "exchange 100");
        all.due(100, "exchange 100; ticketAt 0 0");
        all.due(81, "exchange 100; ticketAt 9 18");
        all.due(2000000, "exchange 100; takings");
        all.due(Scene.NO_SUCH, "exchange 101", "wish 101 0");
        all.due(Scene.NOT_NOW, "hold 1 1", "wish 100 9");
        all.due(1, "addRow 2 5 5; wish 100 10; exchange 100");
    }
}
