import java.util.ArrayList;
import java.util.List;

/**
 * The document once more, by trying every block, every split of a small hall and every chain. Nothing of it is
 * shared with the program, so that the two can be held against each other.
 */
final class PlainOffice {
    private static final int SMALL_HALL = 4;
    private static final int IMPOSSIBLE = Integer.MIN_VALUE;
    // More than any chain of a hall of 12 rows needs: one that comes into a row twice has a shorter one beside it.
    private static final int LONGEST_CHAIN = 14;

    private static final class Seat {
        int ticket = 0;
        boolean blocked = false;
    }

    private static final class Row {
        final List<Seat> seats = new ArrayList<>();
        int score;
        int price;

        boolean free(int seat) {
            return seat >= 0 && seat < seats.size() && seats.get(seat).ticket == 0 && !seats.get(seat).blocked;
        }

        int value(int seat) {
            return score - Math.abs(2 * seat - (seats.size() - 1));
        }

        boolean possible(int first, int count) {
            for (int seat = first; seat < first + count; seat++) {
                if (!free(seat)) {
                    return false;
                }
            }
            return true;
        }

        int blockValue(int first, int count) {
            int sum = 0;
            for (int seat = first; seat < first + count; seat++) {
                sum += value(seat);
            }
            return sum;
        }

        boolean orphans(int first, int count) {
            return free(first - 1) && !free(first - 2) || free(first + count) && !free(first + count + 1);
        }

        int best(int count) {
            int best = -1;
            for (int first = 0; first < seats.size(); first++) {
                if (possible(first, count) && (best < 0 || blockValue(first, count) > blockValue(best, count))) {
                    best = first;
                }
            }
            return best;
        }
    }

    private static final class Ticket {
        int state = 0;
        int end;
        int extended = 0;
        int paid = 0;
        int wish = -1;
    }

    private final List<Row> rows = new ArrayList<>();
    private final List<Ticket> tickets = new ArrayList<>();
    private int minute = 0;
    private int takings = 0;

    private static void argument(boolean holds) {
        if (!holds) {
            throw new IllegalArgumentException();
        }
    }

    private static void state(boolean holds) {
        if (!holds) {
            throw new IllegalStateException();
        }
    }

    private static void index(boolean holds) {
        if (!holds) {
            throw new IndexOutOfBoundsException();
        }
    }

    private static boolean within(int number, int least, int most) {
        return least <= number && number <= most;
    }

    private Row row(int row) {
        index(within(row, 0, rows.size() - 1));
        return rows.get(row);
    }

    private Seat seat(int row, int seat) {
        index(within(seat, 0, row(row).seats.size() - 1));
        return rows.get(row).seats.get(seat);
    }

    private Ticket ticket(int ticket) {
        index(within(ticket, 1, tickets.size()));
        return tickets.get(ticket - 1);
    }

    int addRow(int seats, int score, int price) {
        argument(within(seats, 1, 20) && within(score, 0, 1000) && within(price, 0, 10000));
        state(rows.size() < 12);
        Row row = new Row();
        for (int seat = 0; seat < seats; seat++) {
            row.seats.add(new Seat());
        }
        row.score = score;
        row.price = price;
        rows.add(row);
        return rows.size() - 1;
    }

    boolean toggleBlocked(int row, int seat) {
        Seat it = seat(row, seat);
        state(it.ticket == 0);
        it.blocked = !it.blocked;
        return it.blocked;
    }

    int rows() {
        return rows.size();
    }

    int state(int row, int seat) {
        Seat it = seat(row, seat);
        return it.blocked ? 3 : it.ticket == 0 ? 0 : 1 + ticket(it.ticket).state;
    }

    int ticketAt(int row, int seat) {
        return seat(row, seat).ticket;
    }

    int value(int row, int seat) {
        seat(row, seat);
        return rows.get(row).value(seat);
    }

    int freeSeats(int row) {
        int free = 0;
        for (int seat = 0; seat < row(row).seats.size(); seat++) {
            free += rows.get(row).free(seat) ? 1 : 0;
        }
        return free;
    }

    int orphans() {
        int orphans = 0;
        for (Row row : rows) {
            for (int seat = 0; seat < row.seats.size(); seat++) {
                orphans += row.free(seat) && !row.free(seat - 1) && !row.free(seat + 1) ? 1 : 0;
            }
        }
        return orphans;
    }

    int longestBlock() {
        for (int count = 20; count > 0; count--) {
            for (Row row : rows) {
                if (row.best(count) >= 0) {
                    return count;
                }
            }
        }
        return 0;
    }

    private int[] best(int count) {
        argument(within(count, 1, 20));
        List<int[]> all = new ArrayList<>();
        boolean clean = false;
        for (int row = 0; row < rows.size(); row++) {
            for (int first = 0; first < rows.get(row).seats.size(); first++) {
                if (rows.get(row).possible(first, count)) {
                    all.add(new int[] {row, first});
                    clean |= !rows.get(row).orphans(first, count);
                }
            }
        }
        state(!all.isEmpty());
        int[] best = null;
        for (int[] one : all) {
            Row row = rows.get(one[0]);
            if (clean && row.orphans(one[1], count)) {
                continue;
            }
            if (best == null || row.blockValue(one[1], count) > rows.get(best[0]).blockValue(best[1], count)) {
                best = one;
            }
        }
        return best;
    }

    int bestBlock(int seats) {
        int[] best = best(seats);
        return 100 * best[0] + best[1];
    }

    boolean leavesOrphan(int seats) {
        int[] best = best(seats);
        return rows.get(best[0]).orphans(best[1], seats);
    }

    private int newTicket(int minutes) {
        Ticket ticket = new Ticket();
        ticket.end = minute + minutes;
        tickets.add(ticket);
        return tickets.size();
    }

    private void give(int row, int first, int count, int ticket) {
        for (int seat = first; seat < first + count; seat++) {
            rows.get(row).seats.get(seat).ticket = ticket;
        }
    }

    int hold(int seats, int minutes) {
        argument(within(minutes, 1, 200));
        int[] best = best(seats);
        state(tickets.size() < 100);
        int ticket = newTicket(minutes);
        give(best[0], best[1], seats, ticket);
        return ticket;
    }

    int holdAt(int row, int first, int seats, int minutes) {
        seat(row, first);
        argument(within(seats, 1, 20) && within(minutes, 1, 200));
        state(rows.get(row).possible(first, seats) && tickets.size() < 100);
        int ticket = newTicket(minutes);
        give(row, first, seats, ticket);
        return ticket;
    }

    /** The value of the block of each number of seats in each row, IMPOSSIBLE if there is none. */
    private int[][] blockValues() {
        int[][] values = new int[rows.size()][21];
        for (int row = 0; row < rows.size(); row++) {
            for (int seats = 0; seats <= 20; seats++) {
                int first = seats == 0 ? 0 : rows.get(row).best(seats);
                values[row][seats] = seats == 1 || first < 0 ? IMPOSSIBLE : rows.get(row).blockValue(first, seats);
            }
        }
        return values;
    }

    private static void allSplits(int row, int left, int[] taken, int[][] values, List<int[]> all) {
        if (row == values.length) {
            if (left == 0) {
                all.add(taken.clone());
            }
            return;
        }
        for (int seats = 0; seats <= Math.min(left, 20); seats++) {
            if (values[row][seats] != IMPOSSIBLE) {
                taken[row] = seats;
                allSplits(row + 1, left - seats, taken, values, all);
                taken[row] = 0;
            }
        }
    }

    private static int used(int[] split) {
        int used = 0;
        for (int seats : split) {
            used += seats > 0 ? 1 : 0;
        }
        return used;
    }

    private static int value(int[] split, int[][] values) {
        int sum = 0;
        for (int row = 0; row < split.length; row++) {
            sum += values[row][split[row]];
        }
        return sum;
    }

    private static boolean better(int[] split, int[] than, int[][] values) {
        if (used(split) != used(than)) {
            return used(split) < used(than);
        }
        if (value(split, values) != value(than, values)) {
            return value(split, values) > value(than, values);
        }
        for (int row = 0; row < split.length; row++) {
            if (split[row] != than[row]) {
                return split[row] > than[row];
            }
        }
        return false;
    }

    private static int[] bestOfAll(int people, int[][] values) {
        List<int[]> all = new ArrayList<>();
        allSplits(0, people, new int[values.length], values, all);
        int[] best = null;
        for (int[] split : all) {
            best = best == null || better(split, best, values) ? split : best;
        }
        return best;
    }

    /** For halls with too many splits: from the last row on, the best one for each number of people is kept. */
    private static int[] bestRowByRow(int people, int[][] values) {
        int[][] best = new int[people + 1][];
        best[0] = new int[values.length];
        for (int row = values.length - 1; row >= 0; row--) {
            int[][] longer = best.clone();
            for (int rest = 0; rest <= people; rest++) {
                for (int seats = 2; best[rest] != null && seats <= Math.min(20, people - rest); seats++) {
                    int[] split = best[rest].clone();
                    split[row] = seats;
                    int[] other = longer[rest + seats];
                    if (values[row][seats] != IMPOSSIBLE && (other == null || better(split, other, values))) {
                        longer[rest + seats] = split;
                    }
                }
            }
            best = longer;
        }
        return best[people];
    }

    private int[] split(int people) {
        argument(within(people, 2, 100));
        int[][] values = blockValues();
        int[] best = rows.size() <= SMALL_HALL ? bestOfAll(people, values) : bestRowByRow(people, values);
        state(best != null);
        return best;
    }

    int rowsForGroup(int people) {
        return used(split(people));
    }

    int seatsForGroup(int people, int row) {
        row(row);
        return split(people)[row];
    }

    int holdGroup(int people, int minutes) {
        argument(within(minutes, 1, 200));
        int[] split = split(people);
        state(tickets.size() < 100);
        int ticket = newTicket(minutes);
        for (int row = 0; row < split.length; row++) {
            if (split[row] > 0) {
                give(row, rows.get(row).best(split[row]), split[row], ticket);
            }
        }
        return ticket;
    }

    int tickets() {
        return tickets.size();
    }

    int ticketState(int ticket) {
        return ticket(ticket).state;
    }

    /** Row and seat of each seat of the ticket. */
    private List<int[]> seatsWith(int ticket) {
        List<int[]> found = new ArrayList<>();
        for (int row = 0; row < rows.size(); row++) {
            for (int seat = 0; seat < rows.get(row).seats.size(); seat++) {
                if (rows.get(row).seats.get(seat).ticket == ticket) {
                    found.add(new int[] {row, seat});
                }
            }
        }
        return found;
    }

    int seatsOf(int ticket) {
        ticket(ticket);
        return seatsWith(ticket).size();
    }

    int priceOf(int ticket) {
        ticket(ticket);
        int sum = 0;
        for (int[] seat : seatsWith(ticket)) {
            sum += rows.get(seat[0]).price;
        }
        return sum;
    }

    int extend(int ticket, int minutes) {
        Ticket it = ticket(ticket);
        argument(within(minutes, 1, 200));
        state(it.state == 0 && it.extended < 2);
        it.extended++;
        it.end = minute + minutes;
        return it.end;
    }

    int pay(int ticket) {
        Ticket it = ticket(ticket);
        state(it.state == 0);
        it.state = 1;
        it.paid = priceOf(ticket);
        takings += it.paid;
        return it.paid;
    }

    private void close(int ticket, int how) {
        ticket(ticket).state = how;
        for (int[] seat : seatsWith(ticket)) {
            give(seat[0], seat[1], 1, 0);
        }
    }

    int cancel(int ticket) {
        Ticket it = ticket(ticket);
        state(it.state < 2);
        close(ticket, 3);
        takings -= it.paid;
        return it.paid;
    }

    int takings() {
        return takings;
    }

    int now() {
        return minute;
    }

    int pass(int minutes) {
        argument(within(minutes, 1, 1000));
        int ranOut = 0;
        for (int step = 0; step < minutes; step++) {
            minute++;
            for (int ticket = 1; ticket <= tickets.size(); ticket++) {
                if (ticket(ticket).state == 0 && ticket(ticket).end == minute) {
                    close(ticket, 2);
                    ranOut++;
                }
            }
        }
        return ranOut;
    }

    int nextExpiry() {
        int next = Integer.MAX_VALUE;
        for (Ticket ticket : tickets) {
            next = ticket.state == 0 ? Math.min(next, ticket.end) : next;
        }
        state(next != Integer.MAX_VALUE);
        return next;
    }

    /** The row of the first of its seats, -1 if it has none. */
    int rowSat(int ticket) {
        List<int[]> seats = seatsWith(ticket);
        return seats.isEmpty() ? -1 : seats.get(0)[0];
    }

    int wish(int ticket, int row) {
        Ticket it = ticket(ticket);
        row(row);
        state(it.state == 1);
        for (int[] seat : seatsWith(ticket)) {
            state(seat[0] != row && seat[0] == rowSat(ticket));
        }
        int before = it.wish;
        it.wish = row;
        return before;
    }

    private boolean wishing(int ticket) {
        return ticket(ticket).state == 1 && ticket(ticket).wish >= 0;
    }

    private boolean canEnd(int first, int last) {
        int wish = ticket(last).wish;
        return rows.get(wish).best(seatsOf(first)) >= 0 || rowSat(first) == wish;
    }

    private boolean takesOver(int ticket, int next) {
        return seatsOf(next) == seatsOf(ticket) && rowSat(next) == ticket(ticket).wish;
    }

    /** Whether so many more bookings can follow a ticket, were a booking allowed twice; without, too many ways are tried. */
    private boolean[][] couldFollow(int first) {
        boolean[][] could = new boolean[LONGEST_CHAIN][tickets.size() + 1];
        for (int more = 0; more < LONGEST_CHAIN; more++) {
            for (int ticket = 1; ticket <= tickets.size(); ticket++) {
                could[more][ticket] = wishing(ticket) && (more == 0 ? canEnd(first, ticket)
                    : couldGoOn(ticket, could[more - 1]));
            }
        }
        return could;
    }

    private boolean couldGoOn(int ticket, boolean[] could) {
        for (int next = 1; next <= tickets.size(); next++) {
            if (could[next] && takesOver(ticket, next)) {
                return true;
            }
        }
        return false;
    }

    /** The first chain of a length that goes on from the given bookings, in the order that the document asks for. */
    private List<Integer> firstChain(List<Integer> chain, int length, boolean[][] could) {
        int last = chain.get(chain.size() - 1);
        if (!could[length - chain.size()][last]) {
            return null;
        }
        if (chain.size() == length) {
            return chain;
        }
        for (int next = 1; next <= tickets.size(); next++) {
            if (wishing(next) && !chain.contains(next) && takesOver(last, next)) {
                List<Integer> longer = new ArrayList<>(chain);
                longer.add(next);
                List<Integer> found = firstChain(longer, length, could);
                if (found != null) {
                    return found;
                }
            }
        }
        return null;
    }

    private List<Integer> chainFrom(int ticket) {
        boolean[][] could = couldFollow(ticket);
        List<Integer> chain = null;
        for (int length = 1; length <= LONGEST_CHAIN && chain == null; length++) {
            chain = firstChain(List.of(ticket), length, could);
        }
        return chain;
    }

    int exchange(int ticket) {
        ticket(ticket);
        state(wishing(ticket));
        List<Integer> chain = chainFrom(ticket);
        state(chain != null);
        int size = seatsOf(ticket);
        int last = chain.get(chain.size() - 1);
        int lastRow = ticket(last).wish;
        int free = rows.get(lastRow).best(size);
        List<int[]> places = new ArrayList<>();
        for (int one : chain) {
            places.add(seatsWith(one).get(0));
        }
        give(places.get(0)[0], places.get(0)[1], size, 0);
        for (int place = 0; place < chain.size(); place++) {
            int[] to = place + 1 < chain.size() ? places.get(place + 1)
                : free >= 0 ? new int[] {lastRow, free} : places.get(0);
            give(to[0], to[1], size, chain.get(place));
            ticket(chain.get(place)).wish = -1;
        }
        return chain.size();
    }
}
