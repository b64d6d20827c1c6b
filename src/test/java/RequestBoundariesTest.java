/** Promises 11 to 17, and what "Terms" says of blocks and groups: a method for each sentence that names a boundary case. */
public final class RequestBoundariesTest {
    private static final int[] NO_SEATS = {0, 21, -1, 100, Scene.LEAST, Scene.MOST};
    private static final int[] NO_MINUTES = {0, 201, -1, 1000, Scene.LEAST, Scene.MOST};
    private static final int[] NO_PEOPLE = {1, 101, 0, -2, Scene.LEAST, Scene.MOST};
    private static final Scene NEW = Scene.after();
    /** Row 0 has three seats, row 1 has one. */
    private static final Scene SMALL = Scene.after("addRow 3 10 7", "addRow 1 20 9");
    private static final Scene FULL = SMALL.and("holdAt 0 0 2 9", "holdAt 0 2 1 9", "pay 2", "toggleBlocked 1 0");
    private static final Scene LARGEST = Scene.after(Scene.times(12, "addRow 20 1000 10000"));
    /** Six rows, where 99 tickets of one seat leave the last seat of row 4 and all of row 5. */
    private static final Scene NINETY_NINE = Scene.after(Scene.times(6, "addRow 20 50 5"), singleHolds(99));
    private static final Scene HUNDRED = NINETY_NINE.and("holdAt 4 19 1 200");

    public static void main(String[] args) {
        termsBlockOfOneRow();
        termsAllOfThemFree();
        termsOrphanOnTheLeft();
        termsOrphanOnTheRight();
        termsSeatNextToTheBlockIsNotFree();
        termsFreeSeatNextToThatSeat();
        termsOrphanInItsRow();
        termsWithoutOrphanFirst();
        termsAllLeaveAnOrphan();
        termsGreatestValue();
        termsLowestRow();
        termsLowestFirstSeat();
        promise11Seats1To20();
        promise11RowAndFirstSeat();
        promise11NoPossibleBlock();
        promise12Seats1To20();
        promise12NoPossibleBlock();
        promise13Seats1To20();
        promise13Minutes1To200();
        promise13NoPossibleBlock();
        promise13HundredTickets();
        promise14NoSuchRowOrSeat();
        promise14Seats1To20();
        promise14Minutes1To200();
        promise14NotSoManySeats();
        promise14BlockNotPossible();
        promise14HundredTickets();
        promise15People2To100();
        promise15CannotBeSplit();
        promise16People2To100();
        promise16NoSuchRow();
        promise16CannotBeSplit();
        promise16NoneIfTheRowIsNotUsed();
        promise17People2To100();
        promise17Minutes1To200();
        promise17CannotBeSplit();
        promise17HundredTickets();
        promise17OneTicket();
        termsAtLeastTwoSeatsOfARow();
        termsOneBlockOfARow();
        termsBlockTakenFromARow();
        termsOrphansDoNotMatterForGroups();
        termsAsFewRowsAsPossible();
        termsGreatestValueTogether();
        termsMoreSeatsInTheLowestRow();
        Check.end("RequestBoundariesTest");
    }

    private static String singleHolds(int count) {
        StringBuilder calls = new StringBuilder();
        for (int seat = 0; seat < count; seat++) {
            calls.append("; holdAt ").append(seat / 20).append(' ').append(seat % 20).append(" 1 200");
        }
        return calls.toString();
    }

    // ---- Terms: blocks

    /** "A block of n seats is n adjacent seats of one row". */
    private static void termsBlockOfOneRow() {
        Scene rows = Scene.after("addRow 2 5 5", "addRow 2 5 5");
        rows.due(Scene.NOT_NOW, "bestBlock 3", "leavesOrphan 3", "hold 3 1", "holdAt 0 0 3 1", "holdAt 0 1 2 1");
        rows.due(1, "holdAt 0 0 2 1", "holdAt 0 1 1 1", "holdAt 1 1 1 1");
        Scene broken = Scene.after("addRow 5 5 5", "toggleBlocked 0 2");
        broken.due(Scene.NOT_NOW, "bestBlock 3", "hold 4 1", "holdAt 0 0 4 1");
        broken.due(0, "bestBlock 2");
    }

    /** "it is possible if all of them are free": the first, one in it and the last one each are not, in each way. */
    private static void termsAllOfThemFree() {
        for (int seat = 1; seat <= 3; seat++) {
            String[] ways = {"toggleBlocked 0 " + seat, "holdAt 0 " + seat + " 1 9", "holdAt 0 " + seat + " 1 9; pay 1"};
            for (String way : ways) {
                Scene taken = Scene.after("addRow 5 5 5", way);
                taken.due(Scene.NOT_NOW, "holdAt 0 1 3 9", "bestBlock 5", "bestBlock 4");
            }
        }
        Scene beside = Scene.after("addRow 5 5 5", "toggleBlocked 0 0", "toggleBlocked 0 4");
        beside.due(1, "holdAt 0 1 3 9", "bestBlock 3");
        beside.due(Scene.NOT_NOW, "holdAt 0 0 4 9", "holdAt 0 1 4 9", "bestBlock 4");
    }

    /** "a seat next to the block, on either side, is free, and that seat has no free seat next to it". */
    private static void termsOrphanOnTheLeft() {
        Scene row = Scene.after("addRow 4 9 9", "toggleBlocked 0 3");
        row.due(1, "bestBlock 2");
        row.due(true, "leavesOrphan 2");
        row.due(1, "hold 2 9; orphans", "hold 2 9; ticketAt 0 2");
    }

    private static void termsOrphanOnTheRight() {
        Scene row = Scene.after("addRow 4 9 9", "toggleBlocked 0 0");
        row.due(1, "bestBlock 2");
        row.due(true, "leavesOrphan 2");
        row.due(1, "hold 2 9; orphans", "hold 2 9; ticketAt 0 2");
    }

    private static void termsSeatNextToTheBlockIsNotFree() {
        Scene.after("addRow 2 9 9").due(false, "leavesOrphan 2");
        Scene row = Scene.after("addRow 4 9 9");
        row.due(1, "toggleBlocked 0 0; toggleBlocked 0 3; bestBlock 2");
        row.due(false, "toggleBlocked 0 0; toggleBlocked 0 3; leavesOrphan 2", "holdAt 0 0 1 9; holdAt 0 3 1 9; leavesOrphan 2",
            "holdAt 0 0 1 9; pay 1; holdAt 0 3 1 9; pay 2; leavesOrphan 2");
        Scene.after("addRow 3 9 9").due(false, "toggleBlocked 0 1; leavesOrphan 1", "toggleBlocked 0 0; leavesOrphan 2");
    }

    /** Two seats beside the block are no orphan; the block with the greater value would leave one on each side. */
    private static void termsFreeSeatNextToThatSeat() {
        Scene row = Scene.after("addRow 4 9 9");
        row.due(0, "bestBlock 2");
        row.due(false, "leavesOrphan 2");
        Scene bounded = Scene.after("addRow 5 9 9", "holdAt 0 4 1 9");
        bounded.due(2, "bestBlock 2");
        bounded.due(false, "leavesOrphan 2");
        bounded.due(3, "bestBlock 1");
        Scene blocked = Scene.after("addRow 5 9 9", "toggleBlocked 0 0");
        blocked.due(1, "bestBlock 2");
        blocked.due(false, "leavesOrphan 2");
    }

    private static void termsOrphanInItsRow() {
        Scene rows = Scene.after("addRow 3 9 9", "addRow 3 9 9");
        rows.due(true, "leavesOrphan 2");
        rows.due(0, "bestBlock 2");
    }

    /** "if there is a possible block of n seats that leaves no orphan, blocks that leave an orphan are not considered". */
    private static void termsWithoutOrphanFirst() {
        Scene rows = Scene.after("addRow 3 1000 1", "addRow 2 0 1");
        rows.due(100, "bestBlock 2");
        rows.due(false, "leavesOrphan 2");
        rows.due(1, "hold 2 9; ticketAt 1 0");
        Scene.after("addRow 3 9 1").due(0, "bestBlock 1");
        Scene.after("addRow 3 9 1", "addRow 3 1000 1", "toggleBlocked 0 2").due(100, "bestBlock 1");
    }

    private static void termsAllLeaveAnOrphan() {
        Scene rows = Scene.after("addRow 3 1000 1", "addRow 2 0 1", "toggleBlocked 1 0");
        rows.due(0, "bestBlock 2");
        rows.due(true, "leavesOrphan 2");
        rows.due(Scene.NOT_NOW, "bestBlock 4");
        Scene worse = Scene.after("addRow 3 5 1", "addRow 3 6 1");
        worse.due(100, "bestBlock 2");
        worse.due(true, "leavesOrphan 2");
    }

    private static void termsGreatestValue() {
        Scene.after("addRow 1 0 1", "addRow 1 1 1").due(100, "bestBlock 1");
        Scene.after("addRow 20 0 1", "addRow 20 1 1").due(100, "bestBlock 20");
        Scene negative = Scene.after("addRow 4 0 1", "toggleBlocked 0 1", "toggleBlocked 0 2", "toggleBlocked 0 3",
            "addRow 4 1 1", "toggleBlocked 1 0", "toggleBlocked 1 1", "toggleBlocked 1 2");
        negative.due(103, "bestBlock 1");
    }

    /** "of several the one in the row with the lowest number". */
    private static void termsLowestRow() {
        Scene.after("addRow 1 5 1", "addRow 1 5 1").due(0, "bestBlock 1");
        Scene.after("addRow 1 5 1", "addRow 1 5 1").due(100, "toggleBlocked 0 0; bestBlock 1", "holdAt 0 0 1 1; bestBlock 1");
        LARGEST.due(0, "bestBlock 20");
        LARGEST.due(1100, "holdGroup 100 9; holdGroup 100 9; holdGroup 20 9; bestBlock 20");
    }

    /** "of several in that row the one whose first seat has the lowest number". */
    private static void termsLowestFirstSeat() {
        Scene.after("addRow 6 5 1").due(2, "bestBlock 1", "bestBlock 2");
        Scene.after("addRow 2 5 1").due(0, "bestBlock 1");
        Scene.after("addRow 5 5 1", "toggleBlocked 0 2").due(0, "bestBlock 2");
    }

    // ---- 11: bestBlock

    private static void promise11Seats1To20() {
        LARGEST.due(Scene.OUT_OF_RANGE, Scene.each("bestBlock #", NO_SEATS));
        LARGEST.due(0, "bestBlock 20");
        LARGEST.due(9, "bestBlock 1");
        Scene nineteen = Scene.after("addRow 19 5 5");
        nineteen.due(0, "bestBlock 19");
        nineteen.due(Scene.NOT_NOW, "bestBlock 20");
        nineteen.due(Scene.OUT_OF_RANGE, "bestBlock 21");
    }

    /** "Returns 100 * row + first seat.": the least and the greatest. */
    private static void promise11RowAndFirstSeat() {
        Scene.after("addRow 1 5 5").due(0, "bestBlock 1");
        Scene last = Scene.after(Scene.times(11, "addRow 1 1000 5"), Scene.forEach("toggleBlocked # 0", Scene.from(0, 10)),
            "addRow 20 0 5", Scene.forEach("toggleBlocked 11 #", Scene.from(0, 18)));
        last.due(1119, "bestBlock 1");
        last.due(Scene.NOT_NOW, "bestBlock 2");
    }

    /** "Throws IllegalStateException if there is no possible block": no row, none free, too few, not side by side. */
    private static void promise11NoPossibleBlock() {
        NEW.due(Scene.NOT_NOW, Scene.each("bestBlock #", Scene.from(1, 20)));
        FULL.due(Scene.NOT_NOW, Scene.each("bestBlock #", Scene.from(1, 20)));
        SMALL.due(Scene.NOT_NOW, Scene.each("bestBlock #", Scene.from(4, 20)));
        SMALL.due(0, "bestBlock 3");
        SMALL.and("toggleBlocked 0 1").due(Scene.NOT_NOW, "bestBlock 2", "bestBlock 3");
        FULL.due(100, "toggleBlocked 1 0; bestBlock 1");
        FULL.due(2, "cancel 2; bestBlock 1");
        FULL.due(0, "pass 9; bestBlock 2");
        FULL.and("pass 8").due(Scene.NOT_NOW, "bestBlock 1");
    }

    // ---- 12: leavesOrphan

    private static void promise12Seats1To20() {
        LARGEST.due(Scene.OUT_OF_RANGE, Scene.each("leavesOrphan #", NO_SEATS));
        LARGEST.due(false, "leavesOrphan 1", "leavesOrphan 20");
        Scene row = Scene.after("addRow 20 5 5");
        row.due(true, "leavesOrphan 19");
        row.due(false, "leavesOrphan 18", "leavesOrphan 20", "toggleBlocked 0 0; leavesOrphan 19");
    }

    private static void promise12NoPossibleBlock() {
        NEW.due(Scene.NOT_NOW, Scene.each("leavesOrphan #", Scene.from(1, 20)));
        FULL.due(Scene.NOT_NOW, Scene.each("leavesOrphan #", Scene.from(1, 20)));
        SMALL.due(Scene.NOT_NOW, Scene.each("leavesOrphan #", Scene.from(4, 20)));
        SMALL.due(false, "leavesOrphan 3", "leavesOrphan 1");
        SMALL.due(true, "leavesOrphan 2");
    }

    // ---- 13: hold

    private static void promise13Seats1To20() {
        LARGEST.due(Scene.OUT_OF_RANGE, Scene.each("hold # 9", NO_SEATS));
        LARGEST.due(1, "hold 1 9", "hold 20 9", "hold 1 9; seatsOf 1", "hold 20 9; ticketAt 0 0", "hold 20 9; ticketAt 0 19");
        LARGEST.due(20, "hold 20 9; seatsOf 1");
        LARGEST.due(0, "hold 20 9; ticketAt 1 0", "hold 20 9; freeSeats 0");
    }

    private static void promise13Minutes1To200() {
        LARGEST.due(Scene.OUT_OF_RANGE, Scene.each("hold 2 #", NO_MINUTES));
        LARGEST.due(1, "hold 2 1", "hold 2 200", "hold 2 1; nextExpiry", "hold 2 1; pass 1", "hold 2 200; pass 200");
        LARGEST.due(200, "hold 2 200; nextExpiry");
        LARGEST.due(0, "hold 2 200; pass 199");
    }

    private static void promise13NoPossibleBlock() {
        NEW.due(Scene.NOT_NOW, "hold 1 1", "hold 20 200");
        FULL.due(Scene.NOT_NOW, "hold 1 1", "hold 1 200", "hold 20 200");
        SMALL.due(Scene.NOT_NOW, "hold 4 9", "hold 20 9");
        SMALL.due(1, "hold 3 9", "hold 1 9");
        FULL.due(3, "cancel 1; hold 2 9");
    }

    /** "there are at most 100 in all": closed tickets count too. */
    private static void promise13HundredTickets() {
        NINETY_NINE.due(100, "hold 1 1", "hold 20 200");
        HUNDRED.due(Scene.NOT_NOW, "hold 1 1", "hold 20 200");
        HUNDRED.and("cancel 1", "cancel 100").due(Scene.NOT_NOW, "hold 1 1");
        HUNDRED.and("pass 200").due(Scene.NOT_NOW, "hold 1 1");
        HUNDRED.due(500, "bestBlock 20");
    }

    // ---- 14: holdAt

    private static void promise14NoSuchRowOrSeat() {
        SMALL.due(Scene.NO_SUCH, Scene.each("holdAt # 0 1 9", -1, 2, 12, Scene.LEAST, Scene.MOST));
        SMALL.due(Scene.NO_SUCH, Scene.each("holdAt 0 # 1 9", -1, 3, 20, Scene.LEAST, Scene.MOST));
        SMALL.due(Scene.NO_SUCH, "holdAt 1 1 1 9", "holdAt 1 -1 2 9", "holdAt -1 0 1 9");
        NEW.due(Scene.NO_SUCH, "holdAt 0 0 1 1");
        LARGEST.due(Scene.NO_SUCH, "holdAt 12 0 1 1", "holdAt 11 20 1 1", "holdAt 11 -1 2 1");
        LARGEST.due(1, "holdAt 0 0 1 1", "holdAt 11 19 1 1", "holdAt 11 0 20 1");
    }

    private static void promise14Seats1To20() {
        LARGEST.due(Scene.OUT_OF_RANGE, Scene.each("holdAt 3 0 # 9", NO_SEATS));
        LARGEST.due(Scene.OUT_OF_RANGE, Scene.each("holdAt 11 19 # 9", NO_SEATS));
        LARGEST.due(1, "holdAt 3 0 1 9; seatsOf 1", "holdAt 3 19 1 9; ticketAt 3 19");
        LARGEST.due(20, "holdAt 3 0 20 9; seatsOf 1");
    }

    private static void promise14Minutes1To200() {
        SMALL.due(Scene.OUT_OF_RANGE, Scene.each("holdAt 0 0 1 #", NO_MINUTES));
        SMALL.due(1, "holdAt 0 0 1 1; nextExpiry", "holdAt 0 0 1 1; pass 1", "holdAt 0 0 1 200; pass 200");
        SMALL.due(200, "holdAt 0 0 1 200; nextExpiry");
        SMALL.due(0, "holdAt 0 0 1 200; pass 199");
    }

    /** "also because the row has not so many seats": one more than there are, counted from each seat. */
    private static void promise14NotSoManySeats() {
        SMALL.due(Scene.NOT_NOW, "holdAt 0 0 4 9", "holdAt 0 1 3 9", "holdAt 0 2 2 9", "holdAt 0 0 20 9", "holdAt 0 2 20 9",
            "holdAt 1 0 2 9", "holdAt 1 0 20 9");
        SMALL.due(1, "holdAt 0 0 3 9", "holdAt 0 1 2 9", "holdAt 0 2 1 9", "holdAt 1 0 1 9");
        LARGEST.due(Scene.NOT_NOW, "holdAt 11 1 20 9", "holdAt 11 19 2 9", "holdAt 0 19 2 9");
        LARGEST.due(1, "holdAt 11 1 19 9", "holdAt 11 18 2 9");
    }

    private static void promise14BlockNotPossible() {
        FULL.due(Scene.NOT_NOW, "holdAt 0 0 1 9", "holdAt 0 0 3 9", "holdAt 0 2 1 9", "holdAt 1 0 1 9");
        Scene middle = SMALL.and("holdAt 0 1 1 9");
        middle.due(Scene.NOT_NOW, "holdAt 0 0 2 9", "holdAt 0 1 1 9", "holdAt 0 1 2 9", "holdAt 0 0 3 9");
        middle.due(2, "holdAt 0 0 1 9", "holdAt 0 2 1 9", "pass 9; holdAt 0 0 3 9", "cancel 1; holdAt 0 1 2 9");
    }

    private static void promise14HundredTickets() {
        NINETY_NINE.due(100, "holdAt 5 0 20 1", "holdAt 4 19 1 200", "holdAt 5 19 1 9");
        HUNDRED.due(Scene.NOT_NOW, "holdAt 5 0 20 1", "holdAt 5 19 1 200");
        HUNDRED.and("cancel 1").due(Scene.NOT_NOW, "holdAt 0 0 1 9", "holdAt 5 0 1 9");
    }

    // ---- 15: rowsForGroup

    private static void promise15People2To100() {
        LARGEST.due(Scene.OUT_OF_RANGE, Scene.each("rowsForGroup #", NO_PEOPLE));
        LARGEST.due(1, "rowsForGroup 2", "rowsForGroup 20");
        LARGEST.due(2, "rowsForGroup 21", "rowsForGroup 40");
        LARGEST.due(5, "rowsForGroup 81", "rowsForGroup 99", "rowsForGroup 100");
        Scene.after(Scene.times(12, "addRow 9 1 1")).due(12, "rowsForGroup 100");
    }

    /** "Throws IllegalStateException if the group cannot be split": one more than there are seats for, and one left over. */
    private static void promise15CannotBeSplit() {
        NEW.due(Scene.NOT_NOW, "rowsForGroup 2", "rowsForGroup 100");
        FULL.due(Scene.NOT_NOW, "rowsForGroup 2", "rowsForGroup 100");
        SMALL.due(1, "rowsForGroup 2", "rowsForGroup 3");
        SMALL.due(Scene.NOT_NOW, "rowsForGroup 4", "rowsForGroup 5", "rowsForGroup 100");
        Scene ninetyNine = Scene.after(Scene.times(4, "addRow 20 1 1"), "addRow 19 1 1");
        ninetyNine.due(5, "rowsForGroup 99");
        ninetyNine.due(Scene.NOT_NOW, "rowsForGroup 100");
        Scene.after(Scene.times(12, "addRow 8 1 1")).due(12, "rowsForGroup 96");
        Scene.after(Scene.times(12, "addRow 8 1 1")).due(Scene.NOT_NOW, "rowsForGroup 97");
    }

    // ---- 16: seatsForGroup

    private static void promise16People2To100() {
        LARGEST.due(Scene.OUT_OF_RANGE, Scene.each("seatsForGroup # 0", NO_PEOPLE));
        LARGEST.due(Scene.OUT_OF_RANGE, Scene.each("seatsForGroup # 11", NO_PEOPLE));
        LARGEST.due(2, "seatsForGroup 2 0");
        LARGEST.due(20, "seatsForGroup 20 0", "seatsForGroup 100 0", "seatsForGroup 100 4");
    }

    private static void promise16NoSuchRow() {
        SMALL.due(Scene.NO_SUCH, Scene.each("seatsForGroup 2 #", -1, 2, 12, Scene.LEAST, Scene.MOST));
        NEW.due(Scene.NO_SUCH, "seatsForGroup 2 0", "seatsForGroup 2 -1");
        LARGEST.due(Scene.NO_SUCH, "seatsForGroup 100 12", "seatsForGroup 100 -1");
        LARGEST.due(0, "seatsForGroup 100 11");
    }

    private static void promise16CannotBeSplit() {
        FULL.due(Scene.NOT_NOW, "seatsForGroup 2 0", "seatsForGroup 2 1", "seatsForGroup 100 0");
        SMALL.due(Scene.NOT_NOW, "seatsForGroup 4 0", "seatsForGroup 4 1", "seatsForGroup 100 1");
        SMALL.due(3, "seatsForGroup 3 0");
    }

    private static void promise16NoneIfTheRowIsNotUsed() {
        SMALL.due(0, "seatsForGroup 2 1", "seatsForGroup 3 1");
        LARGEST.due(0, "seatsForGroup 20 1", "seatsForGroup 100 5");
        Scene last = Scene.after("addRow 4 1 1", "addRow 4 9 1");
        last.due(0, "seatsForGroup 4 0", "seatsForGroup 2 0");
        last.due(4, "seatsForGroup 4 1", "seatsForGroup 8 0");
    }

    // ---- 17: holdGroup

    private static void promise17People2To100() {
        LARGEST.due(Scene.OUT_OF_RANGE, Scene.each("holdGroup # 9", NO_PEOPLE));
        LARGEST.due(1, "holdGroup 2 9", "holdGroup 100 9", "holdGroup 100 9; ticketAt 0 0", "holdGroup 100 9; ticketAt 4 19");
        LARGEST.due(2, "holdGroup 2 9; seatsOf 1");
        LARGEST.due(100, "holdGroup 100 9; seatsOf 1");
        LARGEST.due(0, "holdGroup 100 9; ticketAt 5 0");
    }

    private static void promise17Minutes1To200() {
        LARGEST.due(Scene.OUT_OF_RANGE, Scene.each("holdGroup 30 #", NO_MINUTES));
        LARGEST.due(1, "holdGroup 30 1; nextExpiry", "holdGroup 30 1; pass 1", "holdGroup 30 200; pass 200");
        LARGEST.due(200, "holdGroup 30 200; nextExpiry");
        LARGEST.due(0, "holdGroup 30 200; pass 199");
    }

    private static void promise17CannotBeSplit() {
        NEW.due(Scene.NOT_NOW, "holdGroup 2 1", "holdGroup 100 200");
        FULL.due(Scene.NOT_NOW, "holdGroup 2 1", "holdGroup 100 200");
        SMALL.due(Scene.NOT_NOW, "holdGroup 4 9", "holdGroup 100 9");
        SMALL.due(1, "holdGroup 3 9");
    }

    private static void promise17HundredTickets() {
        NINETY_NINE.due(100, "holdGroup 2 1", "holdGroup 20 200");
        HUNDRED.due(Scene.NOT_NOW, "holdGroup 2 1", "holdGroup 20 200");
        HUNDRED.due(1, "rowsForGroup 20");
        HUNDRED.due(20, "seatsForGroup 20 5");
    }

    /** "Holds the seats of the split of a group, as one ticket." */
    private static void promise17OneTicket() {
        Scene pairs = Scene.after(Scene.times(12, "addRow 2 5 5"), "holdGroup 24 9");
        pairs.due(1, "tickets");
        pairs.due(24, "seatsOf 1");
        pairs.due(1, Scene.each("ticketAt # 0", Scene.from(0, 11)));
        pairs.due(1, Scene.each("ticketAt # 1", Scene.from(0, 11)));
        pairs.due(1, "pass 9");
        pairs.due(0, "longestBlock", "cancel 1");
        pairs.due(2, "cancel 1; longestBlock", "pass 9; longestBlock");
    }

    // ---- Terms: groups

    private static void split(Scene scene, int people, int... seats) {
        int used = 0;
        for (int row = 0; row < seats.length; row++) {
            scene.due(seats[row], "seatsForGroup " + people + " " + row);
            used += seats[row] > 0 ? 1 : 0;
        }
        scene.due(used, "rowsForGroup " + people);
    }

    /** "of at least 2 seats": a row is never used for one. */
    private static void termsAtLeastTwoSeatsOfARow() {
        Scene.after(Scene.times(12, "addRow 1 5 5")).due(Scene.NOT_NOW, "rowsForGroup 2", "holdGroup 2 9", "holdGroup 12 9");
        Scene.after("addRow 2 5 5", "addRow 1 5 5").due(Scene.NOT_NOW, "rowsForGroup 3", "holdGroup 3 9");
        Scene.after("addRow 2 5 5", "addRow 2 5 5").due(Scene.NOT_NOW, "rowsForGroup 3", "holdGroup 3 9");
        split(Scene.after("addRow 2 5 5", "addRow 2 5 5"), 4, 2, 2);
        split(Scene.after("addRow 3 5 5", "addRow 3 50 5"), 4, 2, 2);
        split(Scene.after("addRow 20 5 5", "addRow 20 5 5"), 21, 11, 10);
        split(Scene.after("addRow 6 0 5", "addRow 3 1000 5"), 7, 4, 3);
        split(Scene.after("addRow 4 0 5", "addRow 20 1000 5"), 21, 2, 19);
        // With and without a fifth seat that is worth nothing the values are the same, so one seat would look as good.
        split(Scene.after("addRow 1 0 5", "addRow 4 3 5", "addRow 2 1 5"), 5, 0, 3, 2);
        split(Scene.after("addRow 4 3 5", "addRow 1 0 5", "addRow 2 1 5"), 5, 3, 0, 2);
    }

    /** "one block each is taken": never two of a row. */
    private static void termsOneBlockOfARow() {
        Scene broken = Scene.after("addRow 5 5 5", "toggleBlocked 0 2");
        broken.due(Scene.NOT_NOW, "rowsForGroup 4", "rowsForGroup 3");
        split(broken, 2, 2);
        split(broken.and("addRow 2 0 5"), 4, 2, 2);
    }

    /** "the one ... that has the greatest value, of several the one whose first seat has the lowest number". */
    private static void termsBlockTakenFromARow() {
        Scene row = Scene.after("addRow 5 5 5");
        row.due(0, "holdGroup 2 9; ticketAt 0 0", "holdGroup 2 9; ticketAt 0 3", "holdGroup 3 9; ticketAt 0 0");
        row.due(1, "holdGroup 2 9; ticketAt 0 1", "holdGroup 2 9; ticketAt 0 2", "holdGroup 3 9; ticketAt 0 3",
            "holdGroup 5 9; ticketAt 0 0", "holdGroup 5 9; ticketAt 0 4");
        Scene right = Scene.after("addRow 5 5 5", "toggleBlocked 0 1");
        right.due(1, "holdGroup 2 9; ticketAt 0 2", "holdGroup 2 9; ticketAt 0 3");
    }

    /** "whether orphans are left does not matter": the best block would be another one. */
    private static void termsOrphansDoNotMatterForGroups() {
        Scene row = Scene.after("addRow 4 5 5");
        row.due(1, "holdGroup 2 9; ticketAt 0 1");
        row.due(2, "holdGroup 2 9; orphans");
        row.due(0, "hold 2 9; orphans");
    }

    private static void termsAsFewRowsAsPossible() {
        split(Scene.after("addRow 6 0 5", "addRow 3 1000 5", "addRow 3 1000 5"), 6, 6, 0, 0);
        split(Scene.after("addRow 3 1000 5", "addRow 3 1000 5", "addRow 6 0 5"), 6, 0, 0, 6);
        split(Scene.after("addRow 3 0 5", "addRow 3 0 5", "addRow 3 0 5", "addRow 5 0 5", "addRow 4 0 5"), 9, 0, 0, 0, 5, 4);
        split(Scene.after(Scene.times(12, "addRow 3 5 5")), 36, 3, 3, 3, 3, 3, 3, 3, 3, 3, 3, 3, 3);
        split(Scene.after(Scene.times(12, "addRow 3 5 5")), 24, 3, 3, 3, 3, 3, 3, 3, 3, 0, 0, 0, 0);
        split(Scene.after(Scene.times(12, "addRow 2 5 5")), 24, 2, 2, 2, 2, 2, 2, 2, 2, 2, 2, 2, 2);
    }

    private static void termsGreatestValueTogether() {
        split(Scene.after("addRow 4 10 5", "addRow 4 20 5"), 4, 0, 4);
        split(Scene.after("addRow 4 10 5", "addRow 4 20 5"), 6, 2, 4);
        split(Scene.after("addRow 20 0 5", "addRow 20 1 5"), 20, 0, 20);
        split(Scene.after("addRow 20 0 5", "addRow 20 1 5", "addRow 20 2 5"), 40, 0, 20, 20);
        split(Scene.after("addRow 4 2 5", "addRow 3 0 5", "addRow 3 1 5"), 3, 3, 0, 0);
        split(Scene.after("addRow 10 50 5", "addRow 6 10 5", "addRow 6 10 5"), 17, 10, 4, 3);
        split(Scene.after("addRow 6 10 5", "addRow 10 50 5", "addRow 6 10 5"), 17, 4, 10, 3);
    }

    /** "in the row with the lowest number among the rows in which they differ, the one that takes more seats". */
    private static void termsMoreSeatsInTheLowestRow() {
        split(Scene.after("addRow 4 50 5", "addRow 4 50 5"), 4, 4, 0);
        split(Scene.after("addRow 4 50 5", "addRow 4 50 5"), 5, 3, 2);
        split(Scene.after("addRow 4 50 5", "addRow 4 50 5"), 6, 4, 2);
        split(Scene.after(Scene.times(3, "addRow 5 10 5")), 11, 5, 3, 3);
        split(Scene.after(Scene.times(12, "addRow 3 5 5")), 25, 3, 3, 3, 3, 3, 3, 3, 2, 2, 0, 0, 0);
        split(Scene.after("addRow 2 10 5", "addRow 5 10 5", "addRow 2 10 5"), 7, 2, 5, 0);
        split(Scene.after(Scene.times(12, "addRow 20 7 5")), 100, 20, 20, 20, 20, 20, 0, 0, 0, 0, 0, 0, 0);
    }
}
