/** The document's terms, first part: stations, cables, rings and hops. */
public final class TermsRingsTest {
    private static final Due due = new Due();

    public static void main(String[] args) {
        stationsAreOnAtFirst();
        cablesAreWholeAtFirst();
        cableGoesToTheNextStation();
        allOnAndAllWholeIsClosed();
        oneCableLessIsWrapped();
        oneStationLessIsWrapped();
        longestRowsAreRings();
        loneStationIsARing();
        twoAreNotAlone();
        closedRowBeginsWithTheLowest();
        otherRowBeginsWhereNoneIsBefore();
        rowGoesOnFromTheLastNumberToZero();
        hopsOfAClosedRing();
        hopsOfAWrappedRing();
        due.end();
    }

    private static void stationsAreOnAtFirst() {
        due.sentence("STATIONS 0 .. N - 1, each ON (at first) or off");
        for (int n = 2; n <= 6; n++) {
            DualRing x = new DualRing(n);
            for (int s = 0; s < n; s++) {
                due.no(n + ": power(" + s + ", true)", x.power(s, true));
                due.yes(n + ": power(" + s + ", false)", x.power(s, false));
            }
            due.no(n + ": power(-1, false)", x.power(-1, false));
            due.no(n + ": power(" + n + ", false)", x.power(n, false));
        }
    }

    private static void cablesAreWholeAtFirst() {
        due.sentence("CABLE s ... whole (at first) or cut");
        for (int n = 2; n <= 6; n++) {
            DualRing x = new DualRing(n);
            for (int s = 0; s < n; s++) {
                due.no(n + ": cable(" + s + ", true)", x.cable(s, true));
                due.yes(n + ": cable(" + s + ", false)", x.cable(s, false));
            }
            due.no(n + ": cable(-1, false)", x.cable(-1, false));
            due.no(n + ": cable(" + n + ", false)", x.cable(n, false));
        }
    }

    private static void cableGoesToTheNextStation() {
        due.sentence("CABLE s goes from station s to station s + 1 (N - 1 to 0)");
        for (int n = 2; n <= 6; n++) {
            for (int only = 0; only < n; only++) {
                DualRing x = new DualRing(n);
                for (int s = 0; s < n; s++) {
                    x.cable(s, false);
                }
                x.cable(only, true);
                int end = only == n - 1 ? 0 : only + 1;
                for (int s = 0; s < n; s++) {
                    String call = n + ", cable " + only + " whole: ring(" + s + ")";
                    due.is(call, x.ring(s), s == end ? only : s);
                }
            }
        }
    }

    private static void allOnAndAllWholeIsClosed() {
        due.sentence("if all are on and all cables whole, it is 0 .. N - 1, and it is CLOSED");
        for (int n = 2; n <= 6; n++) {
            DualRing x = new DualRing(n);
            x.tick(2 * n);
            due.text(n + ": from the last one to the first one", Scenes.path(x, "012345", 1), "0");
            x.cable(n - 1, false);
            x.cable(n - 1, true);
            x.tick(2 * n);
            due.text(n + ": when it is mended", Scenes.path(x, "012345", 1), "0");
            x.power(n - 1, false);
            x.power(n - 1, true);
            x.tick(2 * n);
            due.text(n + ": when all are on again", Scenes.path(x, "012345", 1), "0");
        }
    }

    private static void oneCableLessIsWrapped() {
        due.sentence("all cables whole ... else each longest row of stations ... is a ring for itself");
        for (int n = 2; n <= 6; n++) {
            for (int c = 0; c < n; c++) {
                DualRing x = new DualRing(n);
                x.bid(c, 19);
                x.cable(c, false);
                int first = (c + 1) % n;
                for (int s = 0; s < n; s++) {
                    due.is(n + ", cable " + c + " cut: ring(" + s + ")", x.ring(s), first);
                }
                x.tick(2 * n);
                String want = "-".repeat(n - 1) + first;
                due.text(n + ", cable " + c + " cut: token", Scenes.path(x, "012345", n), want);
            }
        }
    }

    private static void oneStationLessIsWrapped() {
        due.sentence("if all are on ... else each longest row of stations that are on");
        for (int n = 3; n <= 6; n++) {
            for (int off = 0; off < n; off++) {
                DualRing x = new DualRing(n);
                int first = (off + 1) % n;
                int last = (off + n - 1) % n;
                x.bid(last, 19);
                x.power(off, false);
                for (int s = 0; s < n; s++) {
                    due.is(n + ", " + off + " off: ring(" + s + ")", x.ring(s), s == off ? -1 : first);
                }
                x.tick(2 * (n - 1));
                String want = "-".repeat(n - 2) + first;
                due.text(n + ", " + off + " off: token", Scenes.path(x, "012345", n - 1), want);
            }
        }
    }

    private static void longestRowsAreRings() {
        due.sentence("each longest row of stations that are on, each joined by a whole cable to the next one");
        DualRing x = new DualRing(6);
        x.cable(1, false);
        x.cable(4, false);
        rings(x, 5, 5, 2, 2, 2, 5);
        x.power(3, false);
        rings(x, 5, 5, 2, -1, 4, 5);
        x.cable(1, true);
        rings(x, 5, 5, 5, -1, 4, 5);
        x.cable(4, true);
        rings(x, 4, 4, 4, -1, 4, 4);
        x.cable(3, false);
        rings(x, 4, 4, 4, -1, 4, 4);
        x.power(3, true);
        rings(x, 4, 4, 4, 4, 4, 4);
        x.cable(3, true);
        rings(x, 0, 0, 0, 0, 0, 0);
    }

    private static void rings(DualRing x, int... first) {
        for (int s = 0; s < first.length; s++) {
            due.is("ring(" + s + ")", x.ring(s), first[s]);
        }
    }

    private static void loneStationIsARing() {
        due.sentence("also a lone station (it is WRAPPED at both ends)");
        for (int way = 0; way < 4; way++) {
            DualRing x = new DualRing(3);
            if ((way & 1) == 0) {
                x.cable(0, false);
            } else {
                x.power(1, false);
            }
            if ((way & 2) == 0) {
                x.cable(2, false);
            } else {
                x.power(2, false);
            }
            String of = "way " + way + ": ";
            x.send(0, 1, 2, 2);
            due.is(of + "ring(0)", x.ring(0), 0);
            due.is(of + "state(0)", x.state(0), 1);
            x.tick(1);
            due.is(of + "state(0) after 1 tick", x.state(0), 1);
            due.is(of + "operating(0) after 1 tick", x.operating(0), 0);
            x.tick(1);
            due.is(of + "state(0) after 2 ticks", x.state(0), 2);
            due.is(of + "operating(0) after 2 ticks", x.operating(0), 20);
            due.text(of + "path", Scenes.path(x, "0", 8), "000-0-0-");
            due.is(of + "station(0, 6)", x.station(0, 6), 0);
            due.is(of + "station(0, 11): no other station is in its ring", x.station(0, 11), 1);
        }
    }

    private static void twoAreNotAlone() {
        due.sentence("also a lone station");
        DualRing x = new DualRing(3);
        x.power(2, false);
        due.is("ring(1)", x.ring(1), 0);
        x.tick(3);
        due.is("state(1) after 3 ticks", x.state(1), 1);
        x.tick(1);
        due.is("state(1) after 4 ticks", x.state(1), 2);
        due.text("path", Scenes.path(x, "01", 8), "-0-1--0-");
        due.is("station(0, 6)", x.station(0, 6), 1);
        due.is("station(1, 6)", x.station(1, 6), 0);
        x.cable(0, false);
        due.is("ring(0): each is alone now", x.ring(0), 0);
        due.is("ring(1): each is alone now", x.ring(1), 1);
        x.tick(3);
        due.is("station(0, 6)", x.station(0, 6), 0);
        due.is("station(1, 6)", x.station(1, 6), 1);
    }

    private static void closedRowBeginsWithTheLowest() {
        due.sentence("its FIRST station: the lowest one if it is closed");
        for (int n = 2; n <= 6; n++) {
            DualRing x = new DualRing(n);
            x.bid(n - 1, 4);
            for (int s = 0; s < n; s++) {
                due.is(n + ": ring(" + s + ")", x.ring(s), 0);
            }
            x.power(0, false);
            due.is(n + ": ring(" + (n - 1) + ") without 0", x.ring(n - 1), 1);
            x.power(0, true);
            due.is(n + ": ring(" + (n - 1) + ") with 0 again", x.ring(n - 1), 0);
        }
    }

    private static void otherRowBeginsWhereNoneIsBefore() {
        due.sentence("else the one that is joined to none before it");
        DualRing x = new DualRing(5);
        x.cable(4, false);
        rings(x, 0, 0, 0, 0, 0);
        x.cable(4, true);
        x.cable(2, false);
        rings(x, 3, 3, 3, 3, 3);
        x.cable(3, false);
        rings(x, 4, 4, 4, 3, 4);
        x.power(4, false);
        rings(x, 0, 0, 0, 3, -1);
        x.power(0, false);
        rings(x, -1, 1, 1, 3, -1);
    }

    private static void rowGoesOnFromTheLastNumberToZero() {
        due.sentence("CABLE s goes from station s to station s + 1 (N - 1 to 0) ... A RING is a row of stations");
        DualRing x = new DualRing(6);
        x.cable(1, false);
        x.cable(3, false);
        rings(x, 4, 4, 2, 2, 4, 4);
        x.tick(8);
        due.text("row 4 5 0 1: 5 wins", Scenes.path(x, "4501", 12), "0-1----4-5-0");
        due.is("station(0, 6)", x.station(0, 6), 5);
        due.is("station(1, 6)", x.station(1, 6), 0);
        due.is("station(4, 6)", x.station(4, 6), 1);
        due.is("station(5, 6)", x.station(5, 6), 4);

        DualRing y = new DualRing(6);
        y.cable(1, false);
        y.cable(3, false);
        y.cable(5, false);
        rings(y, 0, 0, 2, 2, 4, 4);
        y.tick(4);
        due.text("the row ends at 5 if its cable is cut", Scenes.path(y, "45", 8), "-4-5--4-");
        due.is("station(4, 6)", y.station(4, 6), 5);
    }

    private static void hopsOfAClosedRing() {
        due.sentence("a HOP ... takes 1 tick; from the last one to the first one 1 tick, if it is closed");
        for (int n = 2; n <= 6; n++) {
            DualRing x = new DualRing(n);
            x.tick(2 * n);
            StringBuilder want = new StringBuilder();
            for (int s = 0; s < n; s++) {
                want.append(s).append('-');
            }
            want.append("0-1");
            due.text("path of " + n, Scenes.path(x, "012345", want.length()), want.toString());
        }
    }

    private static void hopsOfAWrappedRing() {
        due.sentence("from the last one to the first one 1 tick, if it is closed, else m ticks");
        for (int m = 1; m <= 6; m++) {
            DualRing x = Scenes.wrapped(m);
            x.tick(2 * m);
            StringBuilder want = new StringBuilder("-".repeat(m - 1));
            for (int s = 0; s < m; s++) {
                // The tick in which the token leaves comes before those of the hop; with the last of these it is there.
                want.append(s).append("-".repeat(s == m - 1 ? m : 1));
            }
            want.append("0-");
            due.text("path of " + m, Scenes.path(x, "012345", want.length()), want.toString());
        }
    }
}
