/** Long runs of calls, each answer held against PlainOffice; the numbers come from a fixed rule. */
public final class LongRunsTest {
    private static final int RUNS = 3000;
    private static final int PROMISED_CALLS = 512;
    private static final int LAST_LOOKS = 80;

    private long seed;
    private BoxofficeRow real;
    private PlainOffice plain;
    private String run;
    private int made;
    private int wrongShare;
    private int largestRow;
    private int largestBooking;
    private int wishShare;
    private int wishedStep;

    public static void main(String[] args) {
        for (int run = 0; run < RUNS; run++) {
            new LongRunsTest().play(run);
        }
        Check.end("LongRunsTest");
    }

    private int pick(int least, int most) {
        seed = seed * 6364136223846793005L + 1442695040888963407L;
        return least + (int) ((seed >>> 33) % (most - least + 1));
    }

    /** Mostly within, at times just outside. */
    private int near(int least, int most) {
        if (pick(1, 1000) <= wrongShare) {
            return pick(0, 1) == 0 ? least - 1 : most + 1;
        }
        return pick(least, most);
    }

    private void play(int number) {
        seed = 77L * number + 5;
        run = "run " + number + " ";
        real = new BoxofficeRow();
        plain = new PlainOffice();
        made = 0;
        wrongShare = number % 4 == 0 ? 60 : 4;
        boolean exchanges = number % 2 == 1;
        boolean large = number % 5 == 0;
        openHall(exchanges, large);
        if (exchanges) {
            fillHall(large ? 60 : 30);
        } else if (large) {
            blockSome();
        }
        while (made < PROMISED_CALLS - LAST_LOOKS) {
            if (exchanges) {
                exchangeCall();
            } else {
                anyCall();
            }
        }
        while (made < PROMISED_CALLS) {
            compareRow();
        }
    }

    private void openHall(boolean exchanges, boolean large) {
        int rows = large ? pick(8, 12) : exchanges ? pick(3, 6) : pick(1, 4);
        largestRow = large && !exchanges ? 20 : exchanges ? pick(2, 6) : pick(2, 20);
        int scores = pick(0, 3) * 4;
        largestBooking = pick(1, 2);
        wishShare = large ? pick(10, 14) : pick(6, 11);
        wishedStep = pick(0, 2);
        for (int row = 0; row < rows; row++) {
            addRow(pick(1, largestRow), pick(0, scores), pick(0, 50));
        }
    }

    private void blockSome() {
        for (int seat = pick(0, 80); seat > 0; seat--) {
            toggle(pick(0, plain.rows() - 1), near(0, largestRow - 1));
        }
    }

    private void fillHall(int tickets) {
        for (int ticket = 1; ticket <= tickets; ticket++) {
            bookOne();
        }
    }

    private void bookOne() {
        int seats = pick(1, largestBooking);
        same("hold", () -> plain.hold(seats, 200), () -> real.hold(seats, 200));
        int newest = plain.tickets();
        same("pay", () -> plain.pay(newest), () -> real.pay(newest));
    }

    /** Mostly one of the newest, as older ones are often closed. */
    private int someTicket() {
        int newest = Math.max(1, plain.tickets());
        return near(pick(0, 3) == 0 ? 1 : Math.max(1, newest - 6), newest);
    }

    /** Beyond the last promised call every answer would be right. */
    private void same(String call, Check.Call want, Check.Call got) {
        if (made < PROMISED_CALLS) {
            made++;
            Check.same(run + call, Check.told(want), Check.told(got));
        }
    }

    private void addRow(int seats, int score, int price) {
        same("addRow", () -> plain.addRow(seats, score, price), () -> real.addRow(seats, score, price));
    }

    private void anyCall() {
        int which = pick(0, 23);
        if (which < 8) {
            ask(which);
        } else if (which < 14) {
            request(which);
        } else if (which < 21) {
            change(which);
        } else {
            group(which);
        }
    }

    private void ask(int which) {
        int row = near(0, plain.rows() - 1);
        int seat = near(0, largestRow - 1);
        int seats = near(1, pick(0, 3) == 0 ? 20 : 8);
        switch (which) {
            case 0 -> same("state", () -> plain.state(row, seat), () -> real.state(row, seat));
            case 1 -> same("ticketAt", () -> plain.ticketAt(row, seat), () -> real.ticketAt(row, seat));
            case 2 -> same("value", () -> plain.value(row, seat), () -> real.value(row, seat));
            case 3 -> same("freeSeats", () -> plain.freeSeats(row), () -> real.freeSeats(row));
            case 4 -> same("orphans", () -> plain.orphans(), () -> real.orphans());
            case 5 -> same("longestBlock", () -> plain.longestBlock(), () -> real.longestBlock());
            case 6 -> same("bestBlock", () -> plain.bestBlock(seats), () -> real.bestBlock(seats));
            default -> same("leavesOrphan", () -> plain.leavesOrphan(seats), () -> real.leavesOrphan(seats));
        }
    }

    private void request(int which) {
        int row = near(0, plain.rows() - 1);
        int seat = near(0, largestRow - 1);
        int seats = near(1, pick(0, 9) == 0 ? 20 : 4);
        int minutes = near(1, pick(0, 9) == 0 ? 200 : 20);
        switch (which) {
            case 8 -> same("hold", () -> plain.hold(seats, minutes), () -> real.hold(seats, minutes));
            case 9 -> same("holdAt", () -> plain.holdAt(row, seat, seats, minutes),
                () -> real.holdAt(row, seat, seats, minutes));
            case 10 -> toggle(row, seat);
            default -> pass(pick(0, 20) == 0 ? near(1, 1000) : near(1, 10));
        }
    }

    private void toggle(int row, int seat) {
        same("toggleBlocked", () -> plain.toggleBlocked(row, seat), () -> real.toggleBlocked(row, seat));
    }

    private void pass(int minutes) {
        same("pass", () -> plain.pass(minutes), () -> real.pass(minutes));
    }

    private void change(int which) {
        int ticket = someTicket();
        int minutes = near(1, 200);
        switch (which) {
            case 14 -> same("pay", () -> plain.pay(ticket), () -> real.pay(ticket));
            case 15, 16 -> same("cancel", () -> plain.cancel(ticket), () -> real.cancel(ticket));
            case 17 -> same("extend", () -> plain.extend(ticket, minutes), () -> real.extend(ticket, minutes));
            case 18 -> wish(ticket, near(0, plain.rows() - 1));
            case 19 -> same("exchange", () -> plain.exchange(ticket), () -> real.exchange(ticket));
            default -> compareTicket(ticket);
        }
    }

    private void wish(int ticket, int row) {
        same("wish", () -> plain.wish(ticket, row), () -> real.wish(ticket, row));
    }

    private void group(int which) {
        int free = 0;
        for (int at = 0; at < plain.rows(); at++) {
            free += plain.freeSeats(at);
        }
        int size = near(2, Math.max(2, Math.min(100, pick(0, 2) == 0 ? free + 2 : free * 2 / 3)));
        int row = near(0, plain.rows() - 1);
        int minutes = near(1, 200);
        switch (which) {
            case 21 -> same("rowsForGroup", () -> plain.rowsForGroup(size), () -> real.rowsForGroup(size));
            case 22 -> same("seatsForGroup", () -> plain.seatsForGroup(size, row), () -> real.seatsForGroup(size, row));
            default -> same("holdGroup", () -> plain.holdGroup(size, minutes), () -> real.holdGroup(size, minutes));
        }
    }

    /** A full hall of small bookings with many wishes, so that long chains come up. */
    private void exchangeCall() {
        int which = pick(0, 19);
        int ticket = near(1, Math.max(1, plain.tickets()));
        if (which < 3) {
            bookOne();
        } else if (which < wishShare) {
            wish(ticket, wishedRow(ticket));
        } else if (which < 15) {
            same("exchange", () -> plain.exchange(ticket), () -> real.exchange(ticket));
        } else if (which == 15 && pick(0, 4) == 0) {
            same("cancel", () -> plain.cancel(ticket), () -> real.cancel(ticket));
        } else if (which == 16) {
            compareRow();
        } else if (which == 17 && pick(0, 9) == 0) {
            group(23);
        } else {
            compareTicket(ticket);
        }
    }

    /** Chains are long only where most wish to go the same way round the hall. */
    private int wishedRow(int ticket) {
        if (wishedStep == 0 || pick(0, 15) == 0) {
            return near(0, plain.rows() - 1);
        }
        return (plain.rowSat(Math.max(1, ticket)) + wishedStep) % plain.rows();
    }

    private void compareTicket(int ticket) {
        same("ticketState", () -> plain.ticketState(ticket), () -> real.ticketState(ticket));
        same("seatsOf", () -> plain.seatsOf(ticket), () -> real.seatsOf(ticket));
        same("priceOf", () -> plain.priceOf(ticket), () -> real.priceOf(ticket));
        same("nextExpiry", () -> plain.nextExpiry(), () -> real.nextExpiry());
        same("takings", () -> plain.takings(), () -> real.takings());
        same("tickets", () -> plain.tickets(), () -> real.tickets());
        same("now", () -> plain.now(), () -> real.now());
    }

    private void compareRow() {
        int row = pick(0, plain.rows() - 1);
        for (int seat = 0; seat < largestRow; seat++) {
            int at = seat;
            same("ticketAt", () -> plain.ticketAt(row, at), () -> real.ticketAt(row, at));
            same("state", () -> plain.state(row, at), () -> real.state(row, at));
        }
    }
}
