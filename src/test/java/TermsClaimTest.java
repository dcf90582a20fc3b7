/** The document's terms, second part: which rings claim, for how long, and how they begin to operate. */
public final class TermsClaimTest {
    private static final Due due = new Due();

    public static void main(String[] args) {
        ringThatIsAsBeforeGoesOn();
        cableToAStationThatIsOffJoinsNothing();
        everyOtherRingClaims();
        sameRowClosedNoMoreClaims();
        claimOfARingThatIsAsBeforeGoesOn();
        claimBeginsAgainWithEveryChange();
        frameBeingSentIsLost();
        frameIsLostWhenAnotherGoesOff();
        bothFramesAreLostWhenRingsAreJoined();
        oneFrameIsLostWhenARingIsParted();
        claimTakesTwoTicksAStation();
        nothingElseHappensInAClaim();
        sinceIsZeroWhenItOperates();
        leastBidCounts();
        bidsOfOthersDoNotCount();
        bidCountsTillTheLastTickOfTheClaim();
        highestNumberOfSeveralWins();
        tokenLeavesTheWinner();
        due.end();
    }

    /** Rows 0 1 2 and 3 4 5; station 0 has begun a frame of 10 ticks with the last of 10 ticks. */
    private static DualRing twoRowsOfThree() {
        DualRing x = new DualRing(6);
        x.cable(2, false);
        x.cable(5, false);
        x.send(0, 1, 10, 2);
        x.tick(10);
        return x;
    }

    private static void sendsUndisturbed(DualRing x, String behind) {
        due.is("state(0) behind " + behind, x.state(0), 4);
        due.is("operating(0) behind " + behind, x.operating(0), 20);
        due.is("station(0, 5) behind " + behind, x.station(0, 5), 1);
        due.is("station(0, 11) behind " + behind, x.station(0, 11), 0);
    }

    private static void ringThatIsAsBeforeGoesOn() {
        due.sentence("A ring whose row of stations and being closed are as before goes on");
        DualRing x = twoRowsOfThree();
        x.cable(3, false);
        sendsUndisturbed(x, "cable(3, false)");
        x.cable(3, true);
        sendsUndisturbed(x, "cable(3, true)");
        x.power(4, false);
        sendsUndisturbed(x, "power(4, false)");
        x.power(4, true);
        sendsUndisturbed(x, "power(4, true)");
        x.power(3, false);
        sendsUndisturbed(x, "power(3, false)");
        x.power(5, false);
        sendsUndisturbed(x, "power(5, false)");
        x.tick(9);
        due.is("station(1, 7) one tick before it is done", x.station(1, 7), 0);
        due.is("station(1, 0): TRT since the ring operates", x.station(1, 0), 13);
        x.tick(1);
        due.is("station(1, 7)", x.station(1, 7), 1);
        due.is("station(0, 11)", x.station(0, 11), 0);
        due.text("the token goes on", Scenes.path(x, "012", 3), "1-2");
    }

    private static void cableToAStationThatIsOffJoinsNothing() {
        due.sentence("each joined by a whole cable to the next one ... as before goes on");
        DualRing x = twoRowsOfThree();
        x.power(3, false);
        x.power(5, false);
        x.cable(2, true);
        sendsUndisturbed(x, "cable(2, true)");
        x.cable(5, true);
        sendsUndisturbed(x, "cable(5, true)");
        x.power(3, true);
        due.is("state(0): joined with 3 it claims", x.state(0), 1);
        due.is("station(0, 11)", x.station(0, 11), 1);
        DualRing y = twoRowsOfThree();
        y.power(5, false);
        y.cable(5, true);
        sendsUndisturbed(y, "cable(5, true)");
        y.power(5, true);
        due.is("ring(0): 3 4 5 0 1 2", y.ring(0), 3);
        due.is("state(0): joined with 5 it claims", y.state(0), 1);
        due.is("station(0, 11)", y.station(0, 11), 1);
    }

    private static void everyOtherRingClaims() {
        due.sentence("every other one CLAIMS");
        DualRing x = twoRowsOfThree();
        x.cable(1, false);
        claims(x, "its last station is gone", 0, 2);
        claims(x, "the last station alone", 2, 1);
        x = twoRowsOfThree();
        x.cable(0, false);
        claims(x, "the first station alone", 0, 1);
        claims(x, "its first station is gone", 1, 2);
        x = twoRowsOfThree();
        x.power(2, false);
        claims(x, "its last station is off", 0, 2);
        x = twoRowsOfThree();
        x.power(0, false);
        claims(x, "its first station is off", 1, 2);
        x = twoRowsOfThree();
        x.cable(2, true);
        claims(x, "joined behind its last station", 0, 6);
        claims(x, "joined before its first station", 3, 6);
        x = twoRowsOfThree();
        x.cable(4, false);
        x.cable(5, true);
        claims(x, "its first station is another one", 0, 4);
        claims(x, "a row that is shorter at its end", 3, 2);
        x = twoRowsOfThree();
        x.power(1, false);
        claims(x, "the stations before the one that is off", 0, 1);
        claims(x, "the stations behind the one that is off", 2, 1);
        x.power(1, true);
        claims(x, "all three again", 2, 3);
    }

    /** The ring of station s, of m stations, claims. */
    private static void claims(DualRing x, String why, int s, int m) {
        due.is(why + ": state(" + s + ")", x.state(s), 1);
        due.is(why + ": operating(" + s + ")", x.operating(s), 0);
        due.is(why + ": ring has " + m, stationsOfRing(x, x.ring(s)), m);
    }

    private static int stationsOfRing(DualRing x, int first) {
        int m = 0;
        for (int s = 0; s < 6; s++) {
            m += x.ring(s) == first ? 1 : 0;
        }
        return m;
    }

    private static void sameRowClosedNoMoreClaims() {
        due.sentence("row of stations and being closed are as before");
        for (int n = 2; n <= 6; n++) {
            DualRing x = new DualRing(n);
            x.tick(2 * n + 1);
            x.cable(n - 1, false);
            due.is(n + ": ring(" + (n - 1) + ")", x.ring(n - 1), 0);
            due.is(n + ": state(0), the row is as before, but not closed", x.state(0), 1);
            x.tick(2 * n);
            due.is(n + ": operating(0)", x.operating(0), 20);
            x.cable(n - 1, true);
            due.is(n + ": ring(" + (n - 1) + ")", x.ring(n - 1), 0);
            due.is(n + ": state(0), closed again", x.state(0), 1);
            x.tick(2 * n);
            due.is(n + ": operating(0)", x.operating(0), 20);
            due.no(n + ": a cable that is whole", x.cable(n - 1, true));
            due.is(n + ": operating(0), nothing was mended", x.operating(0), 20);
        }
    }

    private static void claimOfARingThatIsAsBeforeGoesOn() {
        due.sentence("A ring ... as before goes on");
        DualRing x = new DualRing(6);
        x.cable(2, false);
        x.cable(5, false);
        x.tick(5);
        x.cable(3, false);
        due.is("state(0)", x.state(0), 1);
        x.tick(1);
        due.is("state(0): its sixth tick", x.state(0), 2);
        due.is("state(3): its first tick of 2", x.state(3), 1);
        due.is("state(4): its first tick of 4", x.state(4), 1);
        x.tick(1);
        due.is("state(3)", x.state(3), 2);
        x.tick(1);
        due.is("state(4): its third tick of 4", x.state(4), 1);
        x.tick(1);
        due.is("state(4)", x.state(4), 2);
    }

    private static void claimBeginsAgainWithEveryChange() {
        due.sentence("every other one CLAIMS: ... for 2 * m ticks");
        DualRing x = new DualRing(3);
        x.tick(5);
        x.cable(0, false);
        x.tick(5);
        due.is("state(0): 5 ticks since the cut", x.state(0), 1);
        x.cable(0, true);
        x.tick(5);
        due.is("state(0): 5 ticks since it was mended", x.state(0), 1);
        x.tick(1);
        due.is("state(0)", x.state(0), 2);
        x.power(1, false);
        x.power(1, true);
        due.is("state(0): off and on between two ticks", x.state(0), 1);
        x.tick(5);
        due.is("state(0)", x.state(0), 1);
        x.tick(1);
        due.is("state(0)", x.state(0), 2);
    }

    /**
     * Station 0 of three has two frames of the same kind, of 4 and 2 ticks: the token is there with
     * tick 7, the frames begin with ticks 8 and 12, and the second is done with tick 14.
     */
    private static DualRing withTwoFrames(int priority, int ticks) {
        DualRing x = new DualRing(3);
        x.allot(0, 6);
        x.send(0, 1, 4, priority);
        x.send(0, 2, 2, priority);
        x.tick(ticks);
        return x;
    }

    private static void frameBeingSentIsLost() {
        due.sentence("a frame that was being sent is taken out of its queue and is LOST");
        for (int priority = 2; priority <= 3; priority++) {
            int queue = priority == 3 ? 4 : 5;
            for (int ticks = 6; ticks <= 15; ticks++) {
                boolean first = ticks >= 8 && ticks < 12;
                boolean second = ticks >= 12 && ticks < 14;
                int waiting = ticks < 12 ? 2 : ticks < 14 ? 1 : 0;
                int sent = ticks < 12 ? 0 : ticks < 14 ? 4 : 6;
                String of = "priority " + priority + ", tick " + ticks + ": ";
                DualRing x = withTwoFrames(priority, ticks);
                due.is(of + "queue before", x.station(0, queue), waiting);
                due.is(of + "lost before", x.station(0, 11), 0);
                x.cable(1, false);
                int lost = first || second ? 1 : 0;
                due.is(of + "lost", x.station(0, 11), lost);
                due.is(of + "queue", x.station(0, queue), waiting - lost);
                due.is(of + "sent", x.station(0, 10), sent);
                due.is(of + "station(1, 7)", x.station(1, 7), ticks < 12 ? 0 : 1);
                due.is(of + "station(2, 7)", x.station(2, 7), ticks < 14 ? 0 : 1);
                x.tick(40);
                due.is(of + "lost, later", x.station(0, 11), lost);
                due.is(of + "queue, later", x.station(0, queue), 0);
                due.is(of + "station(1, 8), later", x.station(1, 8), first ? 0 : 4);
                due.is(of + "station(2, 8), later", x.station(2, 8), second ? 0 : 2);
            }
        }
    }

    private static void frameIsLostWhenAnotherGoesOff() {
        due.sentence("When a station goes on or off ... a frame that was being sent is ... LOST");
        for (int ticks = 7; ticks <= 8; ticks++) {
            int lost = ticks - 7;
            DualRing target = withTwoFrames(2, ticks);
            target.power(1, false);
            due.is("tick " + ticks + ", the target goes off: station(0, 11)", target.station(0, 11), lost);
            due.is("tick " + ticks + ", the target goes off: station(0, 5)", target.station(0, 5), 2 - lost);
            due.is("tick " + ticks + ", the target goes off: station(1, 11)", target.station(1, 11), 0);
            DualRing other = withTwoFrames(2, ticks);
            other.power(2, false);
            due.is("tick " + ticks + ", another goes off: station(0, 11)", other.station(0, 11), lost);
            due.is("tick " + ticks + ", another goes off: station(0, 5)", other.station(0, 5), 2 - lost);
        }
        DualRing x = new DualRing(3);
        x.power(2, false);
        x.send(0, 1, 5, 2);
        x.tick(7);
        due.is("state(0)", x.state(0), 4);
        x.power(2, true);
        due.is("a station goes on: station(0, 11)", x.station(0, 11), 1);
        due.is("a station goes on: station(0, 5)", x.station(0, 5), 0);
    }

    private static void bothFramesAreLostWhenRingsAreJoined() {
        due.sentence("every other one CLAIMS: a frame that was being sent is ... LOST");
        DualRing x = new DualRing(4);
        x.cable(1, false);
        x.cable(3, false);
        x.send(0, 1, 5, 2);
        x.send(0, 3, 1, 2);
        x.send(2, 3, 5, 2);
        x.tick(8);
        due.is("state(0)", x.state(0), 4);
        due.is("state(2)", x.state(2), 4);
        x.cable(1, true);
        due.is("station(0, 11)", x.station(0, 11), 1);
        due.is("station(2, 11)", x.station(2, 11), 1);
        due.is("station(0, 5)", x.station(0, 5), 1);
        due.is("station(2, 5)", x.station(2, 5), 0);
        due.is("station(1, 11)", x.station(1, 11), 0);
        due.is("station(3, 11)", x.station(3, 11), 0);
        x.tick(30);
        due.is("station(3, 8): the frame that was waiting", x.station(3, 8), 1);
        due.is("station(1, 8)", x.station(1, 8), 0);
    }

    private static void oneFrameIsLostWhenARingIsParted() {
        due.sentence("every other one CLAIMS: a frame that was being sent is ... LOST");
        for (int sender = 0; sender < 4; sender++) {
            DualRing x = new DualRing(4);
            x.cable(3, false);
            x.send(sender, (sender + 1) % 4, 6, 2);
            // The token is at 0 with tick 12, and two ticks later at each next one.
            x.tick(8 + 4 + 2 * sender + 1);
            due.is(sender + " sends", x.state(sender), 4);
            x.cable(1, false);
            for (int s = 0; s < 4; s++) {
                due.is(sender + " sends: station(" + s + ", 11)", x.station(s, 11), s == sender ? 1 : 0);
                due.is(sender + " sends: station(" + s + ", 5)", x.station(s, 5), 0);
                due.is(sender + " sends: state(" + s + ")", x.state(s), 1);
            }
        }
    }

    private static void claimTakesTwoTicksAStation() {
        due.sentence("for 2 * m ticks nothing else happens in it; with the last of these it OPERATES");
        for (int m = 1; m <= 6; m++) {
            operatesAfter(Scenes.wrapped(m), "wrapped ring of " + m, 2 * m);
        }
        for (int n = 2; n <= 6; n++) {
            operatesAfter(new DualRing(n), "closed ring of " + n, 2 * n);
        }
    }

    private static void operatesAfter(DualRing x, String of, int ticks) {
        due.is(of + ": state(0) at first", x.state(0), 1);
        x.tick(ticks - 1);
        due.is(of + ": state(0) after " + (ticks - 1), x.state(0), 1);
        due.is(of + ": operating(0) after " + (ticks - 1), x.operating(0), 0);
        x.tick(1);
        due.is(of + ": state(0) after " + ticks, x.state(0), 2);
        due.is(of + ": operating(0) after " + ticks, x.operating(0), 20);
    }

    /** Three stations with T = 4, so that a round takes longer than T; told after 12 ticks. */
    private static DualRing threeThatAreLate() {
        DualRing x = new DualRing(3);
        x.bid(0, 4);
        for (int s = 0; s < 3; s++) {
            x.allot(s, 5);
        }
        x.tick(12);
        return x;
    }

    private static void nothingElseHappensInAClaim() {
        due.sentence("nothing else happens in it; ... all its stations have TRT, LATE, THT, ALLOWED ... 0");
        DualRing x = threeThatAreLate();
        String[] before = {"2 0 0 5 0 0 2", "1 1 3 5 0 0 0", "3 0 1 5 0 0 1"};
        float[] rotation = {1.25f, 0.25f, 0.75f};
        for (int s = 0; s < 3; s++) {
            due.text("station " + s + " before", Scenes.told(x, s, 0, 6), before[s]);
        }
        x.cable(2, false);
        for (int ticks = 0; ticks < 6; ticks++) {
            for (int s = 0; s < 3; s++) {
                due.text("station " + s + " after " + ticks, Scenes.told(x, s, 0, 6), before[s]);
                due.real("rotation(" + s + ") after " + ticks, x.rotation(s), rotation[s]);
            }
            x.tick(1);
        }
        for (int s = 0; s < 3; s++) {
            String heard = Integer.toString((s + 2) % 3);
            due.text("station " + s + " when it operates", Scenes.told(x, s, 0, 6), "0 0 0 0 0 0 " + heard);
            due.real("rotation(" + s + ") when it operates", x.rotation(s), rotation[s]);
        }
        x.tick(4);
        due.is("station(0, 1): LATE once since then", x.station(0, 1), 1);
        due.is("state(0)", x.state(0), 2);
    }

    private static void sinceIsZeroWhenItOperates() {
        due.sentence("all its stations have ... SINCE 0");
        DualRing x = threeThatAreLate();
        x.cable(2, false);
        x.tick(6);
        // The token leaves 0, is at 1 with the next tick and at 2 with the third, and then takes 1 + 3 ticks to 0.
        x.tick(1);
        due.real("rotation(1)", x.rotation(1), 0.25 + (1 - 0.25) * 0.25);
        x.tick(2);
        due.real("rotation(2)", x.rotation(2), 0.75 + (3 - 0.75) * 0.25);
        x.tick(4);
        due.real("rotation(0)", x.rotation(0), 1.25 + (7 - 1.25) * 0.25);
    }

    private static void leastBidCounts() {
        due.sentence("T is the least BID of its stations (4 .. 60, at first 20)");
        int[][] bids = {{20, 20, 20}, {21, 20, 60}, {60, 19, 20}, {60, 60, 60}, {60, 60, 4}, {4, 5, 4}, {60, 59, 60}};
        for (int[] bid : bids) {
            DualRing x = new DualRing(3);
            int least = Math.min(bid[0], Math.min(bid[1], bid[2]));
            for (int s = 0; s < 3; s++) {
                if (bid[s] != 20) {
                    x.bid(s, bid[s]);
                }
            }
            x.tick(6);
            for (int s = 0; s < 3; s++) {
                due.is("least of " + bid[0] + " " + bid[1] + " " + bid[2], x.operating(s), least);
            }
        }
    }

    private static void bidsOfOthersDoNotCount() {
        due.sentence("T is the least BID of its stations");
        DualRing x = new DualRing(5);
        x.bid(0, 30);
        x.bid(1, 29);
        x.bid(2, 5);
        x.bid(3, 40);
        x.bid(4, 31);
        x.power(2, false);
        x.cable(4, false);
        x.tick(4);
        due.is("operating(0): 2 is off", x.operating(0), 29);
        due.is("operating(3): 2 is off", x.operating(3), 31);
        due.is("operating(2)", x.operating(2), 0);
        x.power(1, false);
        x.tick(2);
        due.is("operating(0): 1 is off", x.operating(0), 30);
        due.is("operating(3): its ring goes on", x.operating(3), 31);
        x.power(2, true);
        x.tick(6);
        due.is("operating(3): with 2", x.operating(3), 5);
        due.is("operating(0)", x.operating(0), 30);
    }

    private static void bidCountsTillTheLastTickOfTheClaim() {
        due.sentence("with the last of these it OPERATES: T is the least BID of its stations");
        DualRing inside = new DualRing(2);
        inside.tick(3);
        inside.bid(0, 7);
        inside.tick(1);
        due.is("a bid before the last tick", inside.operating(1), 7);
        due.text("and it wins", Scenes.path(inside, "01", 1), "1");
        DualRing outside = new DualRing(2);
        outside.tick(4);
        outside.bid(0, 7);
        due.is("a bid behind the last tick", outside.operating(1), 20);
        outside.tick(100);
        due.is("and later", outside.operating(1), 20);
        outside.cable(0, false);
        outside.tick(4);
        due.is("it counts when the ring claims next", outside.operating(1), 7);
    }

    private static void highestNumberOfSeveralWins() {
        due.sentence("the WINNER the station with that bid, of several the one with the highest number");
        int[][] bids = {{9, 9, 9, 9}, {9, 10, 9, 10}, {9, 10, 10, 10}, {10, 9, 10, 10}, {10, 9, 9, 10}, {9, 10, 10, 9}};
        String[] closed = {"0", "3", "1", "2", "3", "0"};
        String[] open = {"0", "3", "1", "---2", "3", "0"};
        for (int i = 0; i < bids.length; i++) {
            DualRing x = new DualRing(4);
            DualRing y = new DualRing(4);
            // The row of y is 2 3 0 1: its highest number stands in its midst, its last one is 1.
            y.cable(1, false);
            for (int s = 0; s < 4; s++) {
                x.bid(s, bids[i][s]);
                y.bid(s, bids[i][s]);
            }
            x.tick(8);
            y.tick(8);
            due.text("bids " + i + ", closed", Scenes.path(x, "0123", closed[i].length()), closed[i]);
            due.text("bids " + i + ", row 2 3 0 1", Scenes.path(y, "0123", open[i].length()), open[i]);
        }
    }

    private static void tokenLeavesTheWinner() {
        due.sentence("and the token LEAVES the winner");
        DualRing x = new DualRing(3);
        x.bid(1, 10);
        x.allot(1, 5);
        x.send(1, 0, 2, 3);
        x.send(1, 0, 2, 2);
        x.tick(6);
        due.is("state(1): it is on the hop with the last tick of the claim", x.state(1), 2);
        due.is("station(1, 6): it did not arrive there", x.station(1, 6), -1);
        due.is("station(1, 3)", x.station(1, 3), 0);
        due.text("path", Scenes.path(x, "012", 6), "2-0-11");
        due.is("state(1): the winner sends when the token arrives", x.state(1), 4);

        DualRing lone = Scenes.lone(10);
        lone.tick(2);
        due.is("lone: state(0)", lone.state(0), 2);
        due.is("lone: station(0, 6)", lone.station(0, 6), -1);
        lone.tick(1);
        due.is("lone: state(0), it is its own next one", lone.state(0), 3);
    }
}
