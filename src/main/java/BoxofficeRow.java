/** The box office of one performance: seats are held for a while, paid for, cancelled and exchanged. */
public final class BoxofficeRow {
    private static final int MAX_ROWS = 12;
    private static final int MAX_SEATS = 20;
    private static final int MAX_SCORE = 1000;
    private static final int MAX_PRICE = 10000;
    private static final int MAX_MINUTES = 200;
    private static final int MAX_PASS = 1000;
    private static final int MIN_PEOPLE = 2;
    private static final int MAX_PEOPLE = 100;
    private static final int MAX_TICKETS = 100;
    private static final int MAX_EXTENSIONS = 2;
    private static final int MIN_GROUP_BLOCK = 2;
    private static final int ROW_CODE = 100;

    private static final int NONE = -1;

    private static final int SEAT_FREE = 0;
    private static final int SEAT_HELD = 1;
    private static final int SEAT_SOLD = 2;
    private static final int SEAT_BLOCKED = 3;

    private static final int TICKET_HOLD = 0;
    private static final int TICKET_BOOKING = 1;
    private static final int TICKET_RAN_OUT = 2;
    private static final int TICKET_CLOSED = 3;

    // Tickets count from 1, so 0 and below are left for seats that have none.
    private static final int OWNER_FREE = 0;
    private static final int OWNER_BLOCKED = -1;

    private final Hall hall;
    private final TicketBook book;
    private final GroupSplit split;
    private final ExchangeChain chain;
    private int minute;
    private int balance;

    public BoxofficeRow() {
        hall = new Hall();
        book = new TicketBook();
        split = new GroupSplit(hall);
        chain = new ExchangeChain(hall, book);
        minute = 0;
        balance = 0;
    }

    // ---- the hall

    public int addRow(int seats, int score, int price) throws IllegalArgumentException, IllegalStateException {
        needSeats(seats);
        needRange(score, 0, MAX_SCORE);
        needRange(price, 0, MAX_PRICE);
        if (hall.rowCount() >= MAX_ROWS) {
            throw new IllegalStateException("the hall has all its rows");
        }
        return hall.append(seats, score, price);
    }

    public boolean toggleBlocked(int row, int seat) throws IndexOutOfBoundsException, IllegalStateException {
        needSeat(row, seat);
        int owner = hall.ownerOf(row, seat);
        if (owner > OWNER_FREE) {
            throw new IllegalStateException("the seat is held or sold");
        }
        boolean blocks = owner == OWNER_FREE;
        hall.give(row, seat, 1, blocks ? OWNER_BLOCKED : OWNER_FREE);
        return blocks;
    }

    public int rows() {
        return hall.rowCount();
    }

    public int state(int row, int seat) throws IndexOutOfBoundsException {
        needSeat(row, seat);
        int owner = hall.ownerOf(row, seat);
        if (owner == OWNER_FREE) {
            return SEAT_FREE;
        }
        if (owner == OWNER_BLOCKED) {
            return SEAT_BLOCKED;
        }
        return book.stateOf(owner) == TICKET_HOLD ? SEAT_HELD : SEAT_SOLD;
    }

    public int ticketAt(int row, int seat) throws IndexOutOfBoundsException {
        needSeat(row, seat);
        return Math.max(hall.ownerOf(row, seat), 0);
    }

    public int value(int row, int seat) throws IndexOutOfBoundsException {
        needSeat(row, seat);
        return hall.seatValue(row, seat);
    }

    public int freeSeats(int row) throws IndexOutOfBoundsException {
        needRow(row);
        return hall.countFree(row);
    }

    public int orphans() {
        return hall.countOrphans();
    }

    public int longestBlock() {
        return hall.longestFree();
    }

    // ---- requests

    public int bestBlock(int seats) throws IllegalArgumentException, IllegalStateException {
        needSeats(seats);
        return needBest(seats);
    }

    public boolean leavesOrphan(int seats) throws IllegalArgumentException, IllegalStateException {
        needSeats(seats);
        int best = needBest(seats);
        return hall.orphanBeside(best / ROW_CODE, best % ROW_CODE, seats);
    }

    public int hold(int seats, int minutes) throws IllegalArgumentException, IllegalStateException {
        needSeats(seats);
        needMinutes(minutes);
        int best = needBest(seats);
        needTicketLeft();
        return grantBlock(best / ROW_CODE, best % ROW_CODE, seats, minutes);
    }

    public int holdAt(int row, int first, int seats, int minutes) throws IndexOutOfBoundsException, IllegalArgumentException, IllegalStateException {
        needSeat(row, first);
        needSeats(seats);
        needMinutes(minutes);
        if (!hall.isPossible(row, first, seats)) {
            throw new IllegalStateException("the block is not possible");
        }
        needTicketLeft();
        return grantBlock(row, first, seats, minutes);
    }

    public int rowsForGroup(int people) throws IllegalArgumentException, IllegalStateException {
        needPeople(people);
        needSplit(people);
        return split.rowsUsed();
    }

    public int seatsForGroup(int people, int row) throws IndexOutOfBoundsException, IllegalArgumentException, IllegalStateException {
        needRow(row);
        needPeople(people);
        needSplit(people);
        return split.seatsFrom(row);
    }

    public int holdGroup(int people, int minutes) throws IllegalArgumentException, IllegalStateException {
        needPeople(people);
        needMinutes(minutes);
        needSplit(people);
        needTicketLeft();
        return grantSplit(people, minutes);
    }

    // ---- tickets

    public int tickets() {
        return book.count();
    }

    public int ticketState(int ticket) throws IndexOutOfBoundsException {
        needTicket(ticket);
        return book.stateOf(ticket);
    }

    public int seatsOf(int ticket) throws IndexOutOfBoundsException {
        needTicket(ticket);
        return book.isOpen(ticket) ? book.sizeOf(ticket) : 0;
    }

    public int priceOf(int ticket) throws IndexOutOfBoundsException {
        needTicket(ticket);
        return hall.priceOwnedBy(ticket);
    }

    public int extend(int ticket, int minutes) throws IndexOutOfBoundsException, IllegalArgumentException, IllegalStateException {
        needTicket(ticket);
        needMinutes(minutes);
        needHold(ticket);
        if (book.extensionsOf(ticket) >= MAX_EXTENSIONS) {
            throw new IllegalStateException("the hold has been extended twice");
        }
        book.prolong(ticket, minute + minutes);
        return minute + minutes;
    }

    public int pay(int ticket) throws IndexOutOfBoundsException, IllegalStateException {
        needTicket(ticket);
        needHold(ticket);
        int price = hall.priceOwnedBy(ticket);
        book.turnIntoBooking(ticket, price);
        balance += price;
        return price;
    }

    public int cancel(int ticket) throws IndexOutOfBoundsException, IllegalStateException {
        needTicket(ticket);
        if (!book.isOpen(ticket)) {
            throw new IllegalStateException("the ticket is closed");
        }
        // An exchange may have changed the price of the seats, but not what was paid.
        int back = book.paidFor(ticket);
        closeTicket(ticket, TICKET_CLOSED);
        balance -= back;
        return back;
    }

    public int takings() {
        return balance;
    }

    // ---- the clock

    public int now() {
        return minute;
    }

    public int pass(int minutes) throws IllegalArgumentException {
        needRange(minutes, 1, MAX_PASS);
        minute += minutes;
        int ranOut = 0;
        for (int ticket = 1; ticket <= book.count(); ticket++) {
            if (book.stateOf(ticket) == TICKET_HOLD && book.endOf(ticket) <= minute) {
                closeTicket(ticket, TICKET_RAN_OUT);
                ranOut++;
            }
        }
        return ranOut;
    }

    public int nextExpiry() throws IllegalStateException {
        int end = book.earliestEnd();
        if (end == NONE) {
            throw new IllegalStateException("there are no holds");
        }
        return end;
    }

    // ---- exchanges

    public int wish(int ticket, int row) throws IndexOutOfBoundsException, IllegalStateException {
        needTicket(ticket);
        needRow(row);
        if (book.stateOf(ticket) != TICKET_BOOKING) {
            throw new IllegalStateException("the ticket is no booking");
        }
        int place = book.rowOf(ticket);
        if (place == NONE || place == row) {
            throw new IllegalStateException("the booking has several rows or sits in that row");
        }
        int before = book.wishOf(ticket);
        book.setWish(ticket, row);
        return before;
    }

    public int exchange(int ticket) throws IndexOutOfBoundsException, IllegalStateException {
        needTicket(ticket);
        if (book.wishOf(ticket) == NONE) {
            throw new IllegalStateException("the ticket has no wish");
        }
        if (!chain.find(ticket)) {
            throw new IllegalStateException("there is no chain");
        }
        return chain.carryOut();
    }

    // ---- what a call needs

    private void needRow(int row) {
        if (!hall.hasRow(row)) {
            throw new IndexOutOfBoundsException("no such row");
        }
    }

    private void needSeat(int row, int seat) {
        if (!hall.hasSeat(row, seat)) {
            throw new IndexOutOfBoundsException("no such row or seat");
        }
    }

    private void needTicket(int ticket) {
        if (!book.hasTicket(ticket)) {
            throw new IndexOutOfBoundsException("no such ticket");
        }
    }

    private static void needRange(int number, int least, int most) {
        if (number < least || number > most) {
            throw new IllegalArgumentException("out of range");
        }
    }

    private static void needSeats(int seats) {
        needRange(seats, 1, MAX_SEATS);
    }

    private static void needMinutes(int minutes) {
        needRange(minutes, 1, MAX_MINUTES);
    }

    private static void needPeople(int people) {
        needRange(people, MIN_PEOPLE, MAX_PEOPLE);
    }

    private void needHold(int ticket) {
        if (book.stateOf(ticket) != TICKET_HOLD) {
            throw new IllegalStateException("the ticket is no hold");
        }
    }

    private void needTicketLeft() {
        if (book.count() >= MAX_TICKETS) {
            throw new IllegalStateException("there have been all tickets");
        }
    }

    private int needBest(int seats) {
        int best = hall.greatestOfAll(seats, false);
        if (best == NONE) {
            best = hall.greatestOfAll(seats, true);
        }
        if (best == NONE) {
            throw new IllegalStateException("there is no possible block");
        }
        return best;
    }

    private void needSplit(int people) {
        if (!split.find(people)) {
            throw new IllegalStateException("the group cannot be split");
        }
    }

    // ---- what a call changes

    private int grantBlock(int row, int first, int seats, int minutes) {
        int ticket = book.open(seats, minute + minutes);
        book.putAt(ticket, row, first);
        hall.give(row, first, seats, ticket);
        return ticket;
    }

    private int grantSplit(int people, int minutes) {
        int ticket = book.open(people, minute + minutes);
        boolean oneBlock = split.rowsUsed() == 1;
        for (int row = 0; row < hall.rowCount(); row++) {
            int seats = split.seatsFrom(row);
            if (seats > 0) {
                int first = split.firstIn(row);
                hall.give(row, first, seats, ticket);
                if (oneBlock) {
                    book.putAt(ticket, row, first);
                }
            }
        }
        return ticket;
    }

    private void closeTicket(int ticket, int how) {
        hall.freeOwnedBy(ticket);
        book.close(ticket, how);
    }

    /** The rows and who has each seat. */
    private static final class Hall {
        private final int[] seatCounts;
        private final int[] scores;
        private final int[] prices;
        private final int[][] owners;
        private int added;

        Hall() {
            seatCounts = new int[MAX_ROWS];
            scores = new int[MAX_ROWS];
            prices = new int[MAX_ROWS];
            owners = new int[MAX_ROWS][MAX_SEATS];
            added = 0;
        }

        int rowCount() {
            return added;
        }

        boolean hasRow(int row) {
            return row >= 0 && row < added;
        }

        int seatsIn(int row) {
            return row >= 0 && row < added ? seatCounts[row] : 0;
        }

        boolean hasSeat(int row, int seat) {
            return row >= 0 && row < added && seat >= 0 && seat < seatCounts[row];
        }

        /** Returns the new row's number, NONE if the hall is full. */
        int append(int seats, int score, int price) {
            if (added >= MAX_ROWS || seats < 1 || seats > MAX_SEATS) {
                return NONE;
            }
            seatCounts[added] = seats;
            scores[added] = score;
            prices[added] = price;
            added++;
            return added - 1;
        }

        int ownerOf(int row, int seat) {
            return hasSeat(row, seat) ? owners[row][seat] : OWNER_BLOCKED;
        }

        /** A seat beyond either end of the row is not free. */
        boolean isFree(int row, int seat) {
            return hasSeat(row, seat) && owners[row][seat] == OWNER_FREE;
        }

        int seatValue(int row, int seat) {
            return hasSeat(row, seat) ? scores[row] - Math.abs(2 * seat - (seatCounts[row] - 1)) : 0;
        }

        int countFree(int row) {
            int free = 0;
            for (int seat = 0; seat < seatsIn(row); seat++) {
                if (isFree(row, seat)) {
                    free++;
                }
            }
            return free;
        }

        int countOrphans() {
            int orphans = 0;
            for (int row = 0; row < added; row++) {
                for (int seat = 0; seat < seatsIn(row); seat++) {
                    if (isFree(row, seat) && !isFree(row, seat - 1) && !isFree(row, seat + 1)) {
                        orphans++;
                    }
                }
            }
            return orphans;
        }

        int longestFree() {
            int longest = 0;
            for (int row = 0; row < added; row++) {
                longest = Math.max(longest, longestFreeIn(row));
            }
            return longest;
        }

        int longestFreeIn(int row) {
            int longest = 0;
            int run = 0;
            for (int seat = 0; seat < seatsIn(row); seat++) {
                run = isFree(row, seat) ? run + 1 : 0;
                longest = Math.max(longest, run);
            }
            return longest;
        }

        boolean isPossible(int row, int first, int seats) {
            if (seats < 1 || first < 0 || first > seatsIn(row) - seats) {
                return false;
            }
            for (int seat = first; seat < first + seats; seat++) {
                if (owners[row][seat] != OWNER_FREE) {
                    return false;
                }
            }
            return true;
        }

        int blockValue(int row, int first, int seats) {
            int sum = 0;
            for (int seat = first; seat < first + seats; seat++) {
                sum += seatValue(row, seat);
            }
            return sum;
        }

        boolean orphanBeside(int row, int first, int seats) {
            int left = first - 1;
            int right = first + seats;
            return isFree(row, left) && !isFree(row, left - 1)
                || isFree(row, right) && !isFree(row, right + 1);
        }

        /** Returns the first seat of the row's possible block of the greatest value, NONE if there is none. */
        int greatestIn(int row, int seats, boolean orphansAllowed) {
            int best = NONE;
            int bestValue = 0;
            int lastFirst = seatsIn(row) - seats;
            for (int first = 0; first <= lastFirst; first++) {
                if (isPossible(row, first, seats) && (orphansAllowed || !orphanBeside(row, first, seats))) {
                    int value = blockValue(row, first, seats);
                    if (best == NONE || value > bestValue) {
                        best = first;
                        bestValue = value;
                    }
                }
            }
            return best;
        }

        /** Returns 100 * row + first seat of the hall's possible block of the greatest value, NONE if there is none. */
        int greatestOfAll(int seats, boolean orphansAllowed) {
            int best = NONE;
            int bestValue = 0;
            for (int row = 0; row < added; row++) {
                int first = greatestIn(row, seats, orphansAllowed);
                if (first != NONE) {
                    int value = blockValue(row, first, seats);
                    if (best == NONE || value > bestValue) {
                        best = ROW_CODE * row + first;
                        bestValue = value;
                    }
                }
            }
            return best;
        }

        void give(int row, int first, int seats, int owner) {
            for (int seat = first; seat < first + seats; seat++) {
                if (hasSeat(row, seat)) {
                    owners[row][seat] = owner;
                }
            }
        }

        void freeOwnedBy(int ticket) {
            for (int row = 0; row < added; row++) {
                for (int seat = 0; seat < seatsIn(row); seat++) {
                    if (owners[row][seat] == ticket) {
                        owners[row][seat] = OWNER_FREE;
                    }
                }
            }
        }

        int priceOwnedBy(int ticket) {
            int sum = 0;
            for (int row = 0; row < added; row++) {
                for (int seat = 0; seat < seatsIn(row); seat++) {
                    if (owners[row][seat] == ticket) {
                        sum += prices[row];
                    }
                }
            }
            return sum;
        }
    }

    /** What is known of each ticket, except which seats it has if they lie in several rows. */
    private static final class TicketBook {
        private final int[] states;
        private final int[] sizes;
        private final int[] ends;
        private final int[] extensions;
        private final int[] paid;
        private final int[] placeRows;
        private final int[] placeFirsts;
        private final int[] wishes;
        private int granted;

        TicketBook() {
            states = new int[MAX_TICKETS + 1];
            sizes = new int[MAX_TICKETS + 1];
            ends = new int[MAX_TICKETS + 1];
            extensions = new int[MAX_TICKETS + 1];
            paid = new int[MAX_TICKETS + 1];
            placeRows = new int[MAX_TICKETS + 1];
            placeFirsts = new int[MAX_TICKETS + 1];
            wishes = new int[MAX_TICKETS + 1];
            granted = 0;
        }

        int count() {
            return granted;
        }

        boolean hasTicket(int ticket) {
            return ticket >= 1 && ticket <= granted;
        }

        /** Returns the new ticket, NONE if there have been all of them. */
        int open(int size, int end) {
            if (granted >= MAX_TICKETS) {
                return NONE;
            }
            granted++;
            states[granted] = TICKET_HOLD;
            sizes[granted] = size;
            ends[granted] = end;
            extensions[granted] = 0;
            paid[granted] = 0;
            placeRows[granted] = NONE;
            placeFirsts[granted] = NONE;
            wishes[granted] = NONE;
            return granted;
        }

        int stateOf(int ticket) {
            return hasTicket(ticket) ? states[ticket] : TICKET_CLOSED;
        }

        boolean isOpen(int ticket) {
            int state = stateOf(ticket);
            return state == TICKET_HOLD || state == TICKET_BOOKING;
        }

        int sizeOf(int ticket) {
            return hasTicket(ticket) ? sizes[ticket] : 0;
        }

        int endOf(int ticket) {
            return hasTicket(ticket) ? ends[ticket] : NONE;
        }

        int extensionsOf(int ticket) {
            return hasTicket(ticket) ? extensions[ticket] : MAX_EXTENSIONS;
        }

        int paidFor(int ticket) {
            return hasTicket(ticket) ? paid[ticket] : 0;
        }

        /** NONE if the seats lie in several rows. */
        int rowOf(int ticket) {
            return hasTicket(ticket) ? placeRows[ticket] : NONE;
        }

        int firstOf(int ticket) {
            return hasTicket(ticket) ? placeFirsts[ticket] : NONE;
        }

        int wishOf(int ticket) {
            return hasTicket(ticket) ? wishes[ticket] : NONE;
        }

        void prolong(int ticket, int end) {
            if (hasTicket(ticket)) {
                ends[ticket] = end;
                extensions[ticket]++;
            }
        }

        void turnIntoBooking(int ticket, int price) {
            if (hasTicket(ticket)) {
                states[ticket] = TICKET_BOOKING;
                paid[ticket] = price;
            }
        }

        void close(int ticket, int how) {
            if (hasTicket(ticket)) {
                states[ticket] = how;
                wishes[ticket] = NONE;
            }
        }

        void putAt(int ticket, int row, int first) {
            if (hasTicket(ticket)) {
                placeRows[ticket] = row;
                placeFirsts[ticket] = first;
            }
        }

        void setWish(int ticket, int row) {
            if (hasTicket(ticket)) {
                wishes[ticket] = row;
            }
        }

        /** Returns the minute at which the next hold runs out, NONE if there are no holds. */
        int earliestEnd() {
            int earliest = NONE;
            for (int ticket = 1; ticket <= granted; ticket++) {
                if (states[ticket] == TICKET_HOLD && (earliest == NONE || ends[ticket] < earliest)) {
                    earliest = ends[ticket];
                }
            }
            return earliest;
        }
    }

    /** Finds the split of a group, from the last row to the first, for every number of people at once. */
    private static final class GroupSplit {
        private static final int IMPOSSIBLE = MAX_ROWS + 1;

        private final Hall hall;
        private final int[] longest;
        private final int[][] blockFirsts;
        private final int[][] blockValues;
        // Over a row and a number of people: the best that this row and those after it can do.
        private final int[][] fewestRows;
        private final int[][] greatestValues;
        private final int[] taken;
        private int used;

        GroupSplit(Hall hall) {
            this.hall = hall;
            longest = new int[MAX_ROWS];
            blockFirsts = new int[MAX_ROWS][MAX_SEATS + 1];
            blockValues = new int[MAX_ROWS][MAX_SEATS + 1];
            fewestRows = new int[MAX_ROWS + 1][MAX_PEOPLE + 1];
            greatestValues = new int[MAX_ROWS + 1][MAX_PEOPLE + 1];
            taken = new int[MAX_ROWS];
            used = 0;
        }

        int rowsUsed() {
            return used;
        }

        int seatsFrom(int row) {
            return hall.hasRow(row) ? taken[row] : 0;
        }

        int firstIn(int row) {
            return hall.hasRow(row) ? blockFirsts[row][taken[row]] : NONE;
        }

        /** Returns whether the group can be split; what the split takes is answered until the next search. */
        boolean find(int people) {
            if (people < MIN_PEOPLE || people > MAX_PEOPLE) {
                return false;
            }
            startBehindLastRow(people);
            for (int row = hall.rowCount() - 1; row >= 0; row--) {
                readBlocks(row);
                for (int left = 0; left <= people; left++) {
                    decide(row, left);
                }
            }
            used = fewestRows[0][people];
            if (used >= IMPOSSIBLE) {
                return false;
            }
            takeFromRows(people);
            return true;
        }

        private void startBehindLastRow(int people) {
            int end = hall.rowCount();
            for (int left = 0; left <= people; left++) {
                fewestRows[end][left] = left == 0 ? 0 : IMPOSSIBLE;
                greatestValues[end][left] = 0;
            }
        }

        private void readBlocks(int row) {
            longest[row] = hall.longestFreeIn(row);
            for (int seats = MIN_GROUP_BLOCK; seats <= longest[row]; seats++) {
                int first = hall.greatestIn(row, seats, true);
                blockFirsts[row][seats] = first;
                blockValues[row][seats] = hall.blockValue(row, first, seats);
            }
        }

        /** Fewest rows come first, then the greatest value; a sum of both parts keeps that order. */
        private void decide(int row, int left) {
            int fewest = fewestRows[row + 1][left];
            int greatest = greatestValues[row + 1][left];
            int most = Math.min(left, longest[row]);
            for (int seats = MIN_GROUP_BLOCK; seats <= most; seats++) {
                int rowsBehind = fewestRows[row + 1][left - seats];
                if (rowsBehind < IMPOSSIBLE) {
                    int rows = rowsBehind + 1;
                    int value = greatestValues[row + 1][left - seats] + blockValues[row][seats];
                    if (rows < fewest || rows == fewest && value > greatest) {
                        fewest = rows;
                        greatest = value;
                    }
                }
            }
            fewestRows[row][left] = fewest;
            greatestValues[row][left] = greatest;
        }

        private void takeFromRows(int people) {
            int left = people;
            for (int row = 0; row < hall.rowCount(); row++) {
                taken[row] = mostSeats(row, left);
                left -= taken[row];
            }
        }

        private int mostSeats(int row, int left) {
            for (int seats = Math.min(left, longest[row]); seats >= MIN_GROUP_BLOCK; seats--) {
                if (keepsBest(row, left, seats)) {
                    return seats;
                }
            }
            return 0;
        }

        private boolean keepsBest(int row, int left, int seats) {
            return fewestRows[row + 1][left - seats] + 1 == fewestRows[row][left]
                && greatestValues[row + 1][left - seats] + blockValues[row][seats] == greatestValues[row][left];
        }
    }

    /** Finds the chain of an exchange and carries it out. */
    private static final class ExchangeChain {
        private static final int FAR = MAX_ROWS + 1;

        private final Hall hall;
        private final TicketBook book;
        // How many more bookings must move when one comes into the row; FAR if no chain goes on from there.
        private final int[] stepsFrom;
        private final int[] members;
        private int length;
        private int seats;

        ExchangeChain(Hall hall, TicketBook book) {
            this.hall = hall;
            this.book = book;
            stepsFrom = new int[MAX_ROWS];
            members = new int[MAX_ROWS + 1];
            length = 0;
            seats = 0;
        }

        /** Returns whether there is a chain that begins with the ticket, which has a wish. */
        boolean find(int ticket) {
            length = 0;
            seats = book.sizeOf(ticket);
            markEnds(book.rowOf(ticket));
            // A shortest chain comes into no row twice, so that as many rounds as rows are enough.
            for (int round = 0; round < hall.rowCount(); round++) {
                shortenSteps();
            }
            int steps = stepsOf(book.wishOf(ticket));
            if (steps >= FAR) {
                return false;
            }
            collect(ticket, steps);
            return true;
        }

        private int stepsOf(int row) {
            return hall.hasRow(row) ? stepsFrom[row] : FAR;
        }

        /** A chain can end in free seats or at the block of its first booking. */
        private void markEnds(int firstRow) {
            for (int row = 0; row < hall.rowCount(); row++) {
                boolean ends = row == firstRow || hall.greatestIn(row, seats, true) != NONE;
                stepsFrom[row] = ends ? 0 : FAR;
            }
        }

        private void shortenSteps() {
            for (int ticket = 1; ticket <= book.count(); ticket++) {
                int row = book.rowOf(ticket);
                if (takesPart(ticket) && hall.hasRow(row)) {
                    int steps = stepsOf(book.wishOf(ticket)) + 1;
                    stepsFrom[row] = Math.min(stepsFrom[row], steps);
                }
            }
        }

        /** Only bookings of one block have a wish. */
        private boolean takesPart(int ticket) {
            return book.wishOf(ticket) != NONE && book.sizeOf(ticket) == seats;
        }

        private void collect(int ticket, int steps) {
            int current = ticket;
            members[0] = current;
            length = 1;
            for (int left = steps; left > 0 && length < members.length; left--) {
                current = lowestIn(book.wishOf(current), left - 1);
                members[length] = current;
                length++;
            }
        }

        private int lowestIn(int row, int steps) {
            for (int ticket = 1; ticket <= book.count(); ticket++) {
                if (takesPart(ticket) && book.rowOf(ticket) == row && stepsOf(book.wishOf(ticket)) == steps) {
                    return ticket;
                }
            }
            return NONE;
        }

        /** Returns the number of bookings of the chain found last. */
        int carryOut() {
            if (length < 1 || length > members.length) {
                return 0;
            }
            int start = members[0];
            int startRow = book.rowOf(start);
            int startFirst = book.firstOf(start);
            int last = members[length - 1];
            int lastRow = book.wishOf(last);
            // Looked up before the first booking's seats become free, which do not count.
            int freeFirst = hall.greatestIn(lastRow, seats, true);
            hall.give(startRow, startFirst, seats, OWNER_FREE);
            for (int place = 0; place + 1 < length; place++) {
                int behind = members[place + 1];
                move(members[place], book.rowOf(behind), book.firstOf(behind));
            }
            if (freeFirst != NONE) {
                move(last, lastRow, freeFirst);
            } else {
                move(last, startRow, startFirst);
            }
            return length;
        }

        private void move(int ticket, int row, int first) {
            hall.give(row, first, seats, ticket);
            book.putAt(ticket, row, first);
            book.setWish(ticket, NONE);
        }
    }
}
