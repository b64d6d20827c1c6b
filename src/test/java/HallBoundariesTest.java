/** Promises 1 to 10, and what "Terms" says of the hall: a method for each sentence that names a boundary case. */
public final class HallBoundariesTest {
    private static final int[] NO_ROW_OF_TWO = {-1, 2, 11, 12, Scene.LEAST, Scene.MOST};
    private static final int[] NO_SEAT_OF_THREE = {-1, 3, 19, 20, Scene.LEAST, Scene.MOST};
    private static final Scene NEW = Scene.after();
    /** Row 0 has three seats, row 1 has one. */
    private static final Scene SMALL = Scene.after("addRow 3 10 7", "addRow 1 20 9");
    private static final Scene LARGEST = Scene.after(Scene.times(12, "addRow 20 1000 10000"));

    public static void main(String[] args) {
        promise1WithoutRows();
        promise1AtTheMinute0();
        promise1WithoutTickets();
        promise1NothingIsPossibleYet();
        promise2Seats1To20();
        promise2Score0To1000();
        promise2Price0To10000();
        promise2AllItsSeatsAreFree();
        promise2NumberOfTheRow();
        promise2TwelveRows();
        promise2RefusedRowTakesNoNumber();
        promise3BlocksAFreeSeat();
        promise3MakesABlockedSeatFree();
        promise3NoSuchRowOrSeat();
        promise3HeldSeat();
        promise3SoldSeat();
        promise3SeatOfAClosedTicket();
        promise4NumberOfRows();
        promise5EveryState();
        promise5NoSuchRowOrSeat();
        promise6TicketOfASeat();
        promise6NoneIfFreeOrBlocked();
        promise6NoSuchRowOrSeat();
        promise7DistanceFromTheMiddle();
        promise7LeastAndGreatestValue();
        promise7WhateverTheState();
        promise7NoSuchRowOrSeat();
        promise8FromAllToNone();
        promise8NoSuchRow();
        promise9NoneAndMost();
        promise9NoFreeSeatNextToIt();
        promise9InTheirRow();
        promise10NoneIfNoSeatIsFree();
        promise10GreatestOfAllRows();
        promise10BlockOfOneRow();
        promise10SeatsNextToEachOther();
        Check.end("HallBoundariesTest");
    }

    private static void noSuchRowOrSeat(String call) {
        for (int row : NO_ROW_OF_TWO) {
            SMALL.due(Scene.NO_SUCH, call + " " + row + " 0");
        }
        for (int seat : NO_SEAT_OF_THREE) {
            SMALL.due(Scene.NO_SUCH, call + " 0 " + seat);
        }
        SMALL.due(Scene.NO_SUCH, call + " 1 1", call + " 1 2", call + " -1 -1");
        NEW.due(Scene.NO_SUCH, call + " 0 0", call + " -1 0", call + " 0 -1");
        LARGEST.due(Scene.NO_SUCH, call + " 12 0", call + " 11 20", call + " 12 20");
    }

    // ---- 1: "Creates a box office without rows, at the minute 0."

    private static void promise1WithoutRows() {
        NEW.due(0, "rows", "orphans", "longestBlock", "addRow 1 0 0");
        NEW.due(Scene.NO_SUCH, "state 0 0", "ticketAt 0 0", "value 0 0", "freeSeats 0", "toggleBlocked 0 0",
            "holdAt 0 0 1 1", "seatsForGroup 2 0");
    }

    private static void promise1AtTheMinute0() {
        NEW.due(0, "now");
        NEW.due(1, "pass 1; now");
        NEW.due(Scene.NOT_NOW, "nextExpiry");
    }

    private static void promise1WithoutTickets() {
        NEW.due(0, "tickets", "takings", "pass 1", "pass 1000");
        for (int ticket : new int[] {0, 1, 100}) {
            NEW.due(Scene.NO_SUCH, Scene.each("ticketState #", ticket));
            NEW.due(Scene.NO_SUCH, Scene.each("seatsOf #", ticket));
            NEW.due(Scene.NO_SUCH, Scene.each("priceOf #", ticket));
            NEW.due(Scene.NO_SUCH, Scene.each("extend # 1", ticket));
            NEW.due(Scene.NO_SUCH, Scene.each("pay #", ticket));
            NEW.due(Scene.NO_SUCH, Scene.each("cancel #", ticket));
            NEW.due(Scene.NO_SUCH, Scene.each("wish # 0", ticket));
            NEW.due(Scene.NO_SUCH, Scene.each("exchange #", ticket));
        }
    }

    private static void promise1NothingIsPossibleYet() {
        NEW.due(Scene.NOT_NOW, "bestBlock 1", "bestBlock 20", "leavesOrphan 1", "leavesOrphan 20", "hold 1 1",
            "hold 20 200", "rowsForGroup 2", "rowsForGroup 100", "holdGroup 2 1", "holdGroup 100 200");
    }

    // ---- 2: addRow

    /** "seats: 1 to 20", and "A row has 1 to 20 seats, numbered from 0". */
    private static void promise2Seats1To20() {
        NEW.due(Scene.OUT_OF_RANGE, Scene.each("addRow # 500 500", 0, 21, -1, Scene.LEAST, Scene.MOST));
        NEW.due(0, "addRow 1 500 500", "addRow 20 500 500");
        Scene one = NEW.and("addRow 1 500 500");
        one.due(0, "state 0 0");
        one.due(Scene.NO_SUCH, "state 0 1", "state 0 -1");
        Scene twenty = NEW.and("addRow 20 500 500");
        twenty.due(0, "state 0 0", "state 0 19");
        twenty.due(Scene.NO_SUCH, "state 0 20", "state 0 -1");
    }

    /** "score: 0 to 1000". */
    private static void promise2Score0To1000() {
        NEW.due(Scene.OUT_OF_RANGE, Scene.each("addRow 5 # 500", -1, 1001, Scene.LEAST, Scene.MOST));
        NEW.due(0, "addRow 5 0 500", "addRow 5 1000 500", "addRow 1 0 500; value 0 0");
        NEW.due(1000, "addRow 1 1000 500; value 0 0");
    }

    /** "price: price of each seat of the row, 0 to 10000". */
    private static void promise2Price0To10000() {
        NEW.due(Scene.OUT_OF_RANGE, Scene.each("addRow 5 500 #", -1, 10001, Scene.LEAST, Scene.MOST));
        NEW.due(0, "addRow 5 500 0", "addRow 5 500 10000", "addRow 5 500 0; hold 5 1; priceOf 1");
        NEW.due(10000, "addRow 5 500 10000; hold 1 1; priceOf 1");
        NEW.due(50000, "addRow 5 500 10000; hold 5 1; priceOf 1");
    }

    private static void promise2AllItsSeatsAreFree() {
        NEW.and("addRow 20 1 1").due(0, Scene.each("state 0 #", Scene.from(0, 19)));
        NEW.due(20, "addRow 20 1 1; freeSeats 0", "addRow 20 1 1; longestBlock");
        NEW.due(1, "addRow 1 1 1; freeSeats 0", "addRow 1 1 1; longestBlock");
    }

    /** "The hall has up to 12 rows, numbered from 0 in the order in which they are added." */
    private static void promise2NumberOfTheRow() {
        for (int before = 0; before < 12; before++) {
            Scene.after(Scene.times(before, "addRow 2 5 5")).due(before, "addRow 1 7 7");
        }
        Scene mixed = NEW.and("addRow 3 30 3", "addRow 1 10 1", "addRow 2 20 2");
        mixed.due(3, "freeSeats 0");
        mixed.due(1, "freeSeats 1");
        mixed.due(2, "freeSeats 2");
        mixed.due(30, "value 0 1");
        mixed.due(10, "value 1 0");
        mixed.due(19, "value 2 0");
        mixed.due(1, "holdAt 1 0 1 1; priceOf 1");
        mixed.due(2, "holdAt 2 0 1 1; priceOf 1");
    }

    /** "Throws IllegalStateException if there are 12 rows". */
    private static void promise2TwelveRows() {
        Scene eleven = Scene.after(Scene.times(11, "addRow 2 5 5"));
        eleven.due(11, "addRow 20 1000 10000", "addRow 1 0 0");
        eleven.and("addRow 2 5 5").due(Scene.NOT_NOW, "addRow 1 0 0", "addRow 20 1000 10000", "addRow 2 5 5");
        LARGEST.due(Scene.NOT_NOW, "addRow 1 0 0", "addRow 20 1000 10000");
    }

    private static void promise2RefusedRowTakesNoNumber() {
        BoxofficeRow x = new BoxofficeRow();
        Check.outOfRange("2 refused", () -> x.addRow(21, 5, 5));
        Check.due("2 the number is still free", 0, () -> x.addRow(4, 6, 5));
        Check.outOfRange("2 refused", () -> x.addRow(5, 5, -1));
        Check.due("2 the next number", 1, () -> x.addRow(2, 8, 5));
        Check.due("2 its own seats", 2, () -> x.freeSeats(1));
        Check.due("2 its own score", 7, () -> x.value(1, 0));
    }

    // ---- 3: toggleBlocked

    private static void promise3BlocksAFreeSeat() {
        SMALL.due(true, "toggleBlocked 0 0", "toggleBlocked 0 2", "toggleBlocked 1 0");
        SMALL.due(3, "toggleBlocked 0 2; state 0 2");
        SMALL.due(0, "toggleBlocked 0 2; state 0 1", "toggleBlocked 1 0; freeSeats 1");
        SMALL.due(2, "toggleBlocked 0 0; freeSeats 0");
        LARGEST.due(true, "toggleBlocked 0 0", "toggleBlocked 11 19");
    }

    private static void promise3MakesABlockedSeatFree() {
        SMALL.due(false, "toggleBlocked 0 2; toggleBlocked 0 2", "toggleBlocked 1 0; toggleBlocked 1 0");
        SMALL.due(0, "toggleBlocked 0 2; toggleBlocked 0 2; state 0 2");
        SMALL.due(true, "toggleBlocked 0 0; toggleBlocked 0 0; toggleBlocked 0 0", "toggleBlocked 0 1; toggleBlocked 0 2");
        Scene allBlocked = SMALL.and("toggleBlocked 0 0", "toggleBlocked 0 1", "toggleBlocked 0 2", "toggleBlocked 1 0");
        allBlocked.due(false, "toggleBlocked 0 0", "toggleBlocked 0 2", "toggleBlocked 1 0");
        allBlocked.due(1, "toggleBlocked 0 1; longestBlock");
    }

    /** "Throws IndexOutOfBoundsException if there is no such row or seat". */
    private static void promise3NoSuchRowOrSeat() {
        noSuchRowOrSeat("toggleBlocked");
    }

    /** "Throws IllegalStateException if the seat is held or sold". */
    private static void promise3HeldSeat() {
        Scene held = SMALL.and("holdAt 0 1 2 9");
        held.due(Scene.NOT_NOW, "toggleBlocked 0 1", "toggleBlocked 0 2");
        held.due(true, "toggleBlocked 0 0");
    }

    private static void promise3SoldSeat() {
        Scene sold = SMALL.and("holdAt 0 0 2 9", "pay 1");
        sold.due(Scene.NOT_NOW, "toggleBlocked 0 0", "toggleBlocked 0 1");
        sold.due(true, "toggleBlocked 0 2");
    }

    private static void promise3SeatOfAClosedTicket() {
        SMALL.due(true, "holdAt 0 1 1 9; cancel 1; toggleBlocked 0 1", "holdAt 0 1 1 9; pay 1; cancel 1; toggleBlocked 0 1",
            "holdAt 0 1 1 9; pass 9; toggleBlocked 0 1");
        SMALL.and("holdAt 0 1 1 9", "pass 8").due(Scene.NOT_NOW, "toggleBlocked 0 1");
    }

    // ---- 4: rows

    private static void promise4NumberOfRows() {
        for (int count = 0; count <= 12; count++) {
            Scene.after(Scene.times(count, "addRow 1 1 1")).due(count, "rows");
        }
    }

    // ---- 5: state

    /** "Returns 0 free, 1 held, 2 sold, 3 blocked." */
    private static void promise5EveryState() {
        SMALL.due(0, "state 0 0", "state 0 2", "state 1 0");
        SMALL.due(1, "holdAt 0 0 1 1; state 0 0", "holdAt 0 2 1 1; state 0 2", "holdAt 1 0 1 200; pass 199; state 1 0");
        SMALL.due(2, "holdAt 0 0 1 1; pay 1; state 0 0", "holdAt 0 2 1 1; pay 1; pass 1000; state 0 2");
        SMALL.due(3, "toggleBlocked 0 0; state 0 0", "toggleBlocked 1 0; pass 1000; state 1 0");
        SMALL.due(0, "holdAt 0 0 1 1; pass 1; state 0 0", "holdAt 0 0 1 1; cancel 1; state 0 0",
            "holdAt 0 0 1 1; pay 1; cancel 1; state 0 0", "toggleBlocked 0 0; toggleBlocked 0 0; state 0 0");
        LARGEST.due(0, "state 0 0", "state 11 19");
        LARGEST.due(1, "holdAt 11 19 1 1; state 11 19");
    }

    private static void promise5NoSuchRowOrSeat() {
        noSuchRowOrSeat("state");
    }

    // ---- 6: ticketAt

    private static void promise6TicketOfASeat() {
        Scene held = SMALL.and("holdAt 0 1 2 9", "holdAt 1 0 1 9");
        held.due(1, "ticketAt 0 1", "ticketAt 0 2", "pay 1; ticketAt 0 2");
        held.due(2, "ticketAt 1 0", "pay 2; ticketAt 1 0");
        Scene hundred = LARGEST.and(Scene.times(99, "hold 1 200"), "holdAt 11 19 1 200");
        hundred.due(100, "ticketAt 11 19");
    }

    /** "Returns the ticket, 0 if the seat is free or blocked." */
    private static void promise6NoneIfFreeOrBlocked() {
        SMALL.due(0, "ticketAt 0 0", "ticketAt 0 2", "toggleBlocked 0 0; ticketAt 0 0", "holdAt 0 1 1 9; ticketAt 0 0",
            "holdAt 0 1 1 9; ticketAt 0 2", "holdAt 0 1 1 9; pass 9; ticketAt 0 1", "holdAt 0 1 1 9; cancel 1; ticketAt 0 1",
            "holdAt 0 1 1 9; pay 1; cancel 1; ticketAt 0 1", "holdAt 0 1 1 9; cancel 1; toggleBlocked 0 1; ticketAt 0 1");
    }

    private static void promise6NoSuchRowOrSeat() {
        noSuchRowOrSeat("ticketAt");
    }

    // ---- 7: value

    /** "the absolute value of 2 * seat - (seats of the row - 1)": none in the middle of an odd row, else 1 on both sides. */
    private static void promise7DistanceFromTheMiddle() {
        SMALL.due(8, "value 0 0", "value 0 2");
        SMALL.due(10, "value 0 1");
        SMALL.due(20, "value 1 0");
        Scene even = Scene.after("addRow 2 10 1", "addRow 4 10 1");
        even.due(9, "value 0 0", "value 0 1", "value 1 1", "value 1 2");
        even.due(7, "value 1 0", "value 1 3");
    }

    /** "Values may be negative." */
    private static void promise7LeastAndGreatestValue() {
        Scene ends = Scene.after("addRow 20 0 1", "addRow 20 1000 1", "addRow 1 1000 1", "addRow 20 18 1", "addRow 20 19 1",
            "addRow 20 20 1", "addRow 1 0 1");
        ends.due(-19, "value 0 0", "value 0 19");
        ends.due(-1, "value 0 9", "value 0 10", "value 3 0", "value 3 19");
        ends.due(981, "value 1 0", "value 1 19");
        ends.due(999, "value 1 9");
        ends.due(1000, "value 2 0");
        ends.due(0, "value 4 0", "value 4 19", "value 6 0");
        ends.due(1, "value 5 19");
    }

    private static void promise7WhateverTheState() {
        SMALL.due(8, "toggleBlocked 0 0; value 0 0", "holdAt 0 0 1 9; value 0 0", "holdAt 0 0 3 9; pay 1; value 0 2",
            "holdAt 0 0 3 9; pass 9; value 0 2");
    }

    private static void promise7NoSuchRowOrSeat() {
        noSuchRowOrSeat("value");
    }

    // ---- 8: freeSeats

    private static void promise8FromAllToNone() {
        SMALL.due(3, "freeSeats 0");
        SMALL.due(1, "freeSeats 1", "holdAt 0 0 2 9; freeSeats 0");
        SMALL.due(2, "toggleBlocked 0 0; freeSeats 0", "holdAt 0 2 1 9; pay 1; freeSeats 0");
        SMALL.due(0, "holdAt 0 0 3 9; freeSeats 0", "holdAt 0 0 3 9; pay 1; freeSeats 0", "toggleBlocked 1 0; freeSeats 1",
            "toggleBlocked 0 0; toggleBlocked 0 1; toggleBlocked 0 2; freeSeats 0");
        SMALL.due(3, "holdAt 0 0 3 9; pass 9; freeSeats 0", "holdAt 0 0 3 9; pay 1; cancel 1; freeSeats 0");
        LARGEST.due(20, "freeSeats 0", "freeSeats 11");
        LARGEST.due(0, "holdAt 11 0 20 9; freeSeats 11");
    }

    /** "Throws IndexOutOfBoundsException if there is no such row". */
    private static void promise8NoSuchRow() {
        SMALL.due(Scene.NO_SUCH, Scene.each("freeSeats #", NO_ROW_OF_TWO));
        NEW.due(Scene.NO_SUCH, "freeSeats 0", "freeSeats -1");
        LARGEST.due(Scene.NO_SUCH, "freeSeats 12");
    }

    // ---- 9: orphans

    private static void promise9NoneAndMost() {
        NEW.due(0, "orphans");
        LARGEST.due(0, "orphans");
        Scene.after(Scene.times(12, "addRow 1 5 5")).due(12, "orphans");
        StringBuilder everySecond = new StringBuilder(Scene.times(12, "addRow 20 5 5"));
        for (int row = 0; row < 12; row++) {
            for (int seat = 0; seat < 20; seat += 2) {
                everySecond.append("; toggleBlocked ").append(row).append(' ').append(seat);
            }
        }
        Scene.after(everySecond.toString()).due(120, "orphans");
        SMALL.due(0, "toggleBlocked 1 0; holdAt 0 0 3 9; orphans");
    }

    /** "free seats of the hall that have no free seat next to them": at both ends of the row and in it. */
    private static void promise9NoFreeSeatNextToIt() {
        Scene row = Scene.after("addRow 5 9 9");
        row.due(1, "toggleBlocked 0 1; orphans", "toggleBlocked 0 3; orphans", "holdAt 0 1 1 9; orphans",
            "holdAt 0 3 1 9; pay 1; orphans");
        row.due(0, "toggleBlocked 0 0; orphans", "toggleBlocked 0 2; orphans", "toggleBlocked 0 4; orphans");
        row.due(1, "toggleBlocked 0 0; toggleBlocked 0 2; orphans", "toggleBlocked 0 2; toggleBlocked 0 4; orphans");
        row.due(3, "toggleBlocked 0 1; toggleBlocked 0 3; orphans");
        row.due(2, "toggleBlocked 0 1; toggleBlocked 0 3; holdAt 0 2 1 9; orphans");
    }

    private static void promise9InTheirRow() {
        Scene rows = Scene.after("addRow 2 9 9", "addRow 2 9 9");
        rows.due(1, "toggleBlocked 0 0; orphans", "toggleBlocked 1 1; orphans");
        rows.due(2, "toggleBlocked 0 0; toggleBlocked 1 1; orphans", "holdAt 0 0 1 9; holdAt 1 0 1 9; orphans");
    }

    // ---- 10: longestBlock

    /** "Returns the number, 0 if no seat is free." */
    private static void promise10NoneIfNoSeatIsFree() {
        NEW.due(0, "longestBlock");
        Scene taken = SMALL.and("holdAt 0 0 2 9", "holdAt 0 2 1 9", "pay 2", "toggleBlocked 1 0");
        taken.due(0, "longestBlock");
        taken.due(1, "toggleBlocked 1 0; longestBlock", "cancel 2; longestBlock");
        taken.due(2, "cancel 1; longestBlock", "pass 9; longestBlock");
    }

    private static void promise10GreatestOfAllRows() {
        SMALL.due(3, "longestBlock");
        SMALL.due(4, "addRow 4 0 0; longestBlock");
        LARGEST.due(20, "longestBlock");
        Scene.after("addRow 1 5 5").due(1, "longestBlock");
        Scene.after(Scene.times(11, "addRow 1 5 5"), "addRow 20 0 0").due(20, "longestBlock");
        Scene.after("addRow 20 0 0", Scene.times(11, "addRow 1 5 5")).due(20, "longestBlock");
        Scene.after("addRow 20 0 0").due(19, "toggleBlocked 0 0; longestBlock", "toggleBlocked 0 19; longestBlock");
    }

    private static void promise10BlockOfOneRow() {
        Scene.after("addRow 3 5 5", "addRow 3 5 5").due(3, "longestBlock", "toggleBlocked 0 0; longestBlock");
        Scene.after("addRow 3 5 5", "addRow 3 5 5").due(2, "toggleBlocked 0 0; toggleBlocked 1 2; longestBlock");
    }

    private static void promise10SeatsNextToEachOther() {
        Scene row = Scene.after("addRow 5 5 5");
        row.due(2, "toggleBlocked 0 2; longestBlock", "holdAt 0 2 1 9; longestBlock");
        row.due(3, "toggleBlocked 0 1; longestBlock", "toggleBlocked 0 3; longestBlock");
        row.due(1, "toggleBlocked 0 1; toggleBlocked 0 3; longestBlock");
    }
}
