/** The edges of THE ROUND: the terms of 4 up to FULL, and promises 25 to 30, sentence by sentence. */
public final class RoundEdgesTest extends Edges {
    /** 16 arms of 100 about THE DEPOT: all their CROSSINGS are ODD, and PAIRS of those are all as far, unless a STREET is added. */
    private static final Town STAR = star(16, 100);

    public static void main(String[] args) {
        oneBehindTheOther();
        byWhich();
        times();
        joining();
        joiningOfSeveral();
        noJoining();
        oddCrossings();
        exactPairs();
        pairsOfSeveral();
        pairsInOrder();
        exchanges();
        lesserFirst();
        drives();
        clearOrEmpty();
        oneWays();
        nearestOfSeveral();
        noWayByB();
        fullOfDrives();
        fullOrNo();
        whatIsLeft();
        oddCall();
        leastCall();
        leastRefusals();
        roundCall();
        atCall();
        lengthCall();
        roundsOneBehindTheOther();
        partnerCall();
        end();
    }

    /** A STREET that need not be cleared. */
    private static Call lane(int a, int b, int length) {
        return x -> x.sides(x.street(a, b, length, false), 0);
    }

    /** A STREET both SIDES of which must be cleared. */
    private static Call twice(int a, int b, int length) {
        return x -> x.sides(x.street(a, b, length, false), 2);
    }

    private static Call oneWay(int a, int b, int length, int sides) {
        return x -> x.sides(x.street(a, b, length, true), sides);
    }

    private static Call road(int a, int b, int length) {
        return x -> x.street(a, b, length, false);
    }

    private static PloughDepot rounded(Town town, Call... calls) {
        return made(and(and(town, calls), PloughDepot::round));
    }

    /** length() 3 to 6: JOINING, EXCHANGES, PAIRS, how it was made. */
    private static void dueMaking(PloughDepot x, int joinings, int exchanges, int pairs, int how) {
        due(joinings, x.length(3));
        due(exchanges, x.length(4));
        due(pairs, x.length(5));
        due(how, x.length(6));
    }

    private static void duePartners(PloughDepot x, int... pairs) {
        for (int k = 0; k < pairs.length; k += 2) {
            due(pairs[k + 1], x.partner(pairs[k]));
            due(pairs[k], x.partner(pairs[k + 1]));
        }
    }

    // ---- the terms

    private static void oneBehindTheOther() {
        says("Terms 4", "DRIVES along STREETS, one behind the other, from THE DEPOT and back; each CLEARS or is EMPTY.");
        dueRound("+0+1-1-0", rounded(line(3, 10)));
        dueRound("+0+1+2", rounded(ring(3, 10, false)));
        dueRound("+0+1+2", rounded(ring(3, 10, true)));
        dueRound("", rounded(EMPTY));

        says("Terms 4", "round() makes it by THE MAP as it is");
        PloughDepot x = rounded(ring(3, 10, false));
        x.shut(1, true);
        dueRound("+0+1+2", x);
        x.round();
        dueRound("+0-0+2-2", x);
        x.street(1, 2, 3, false);
        dueRound("+0-0+2-2", x);
        x.round();
        dueRound("+0+3+2", x);
    }

    private static void byWhich() {
        says("Terms 4", "(A) If all OPEN STREETS are BOTH WAYS");
        due(1, rounded(line(2, 10)).length(6));
        due(1, rounded(EMPTY).length(6));
        due(1, rounded(crossings(2)).length(6));
        due(1, rounded(line(2, 10), oneWay(1, 0, 10, 1), x -> x.shut(1, true)).length(6));

        says("Terms 4", "(B) If an OPEN STREET is ONE WAY");
        due(2, rounded(line(2, 10), oneWay(1, 0, 10, 1)).length(6));
        // whether it must be cleared or not, and wherever it is
        due(2, rounded(line(2, 10), oneWay(1, 0, 10, 0)).length(6));
        due(2, rounded(and(line(2, 10), x -> x.crossings(2)), oneWay(2, 3, 10, 0)).length(6));
    }

    private static void times() {
        says("Terms 4", "TIMES of a STREET are its SIDES, if it MUST be cleared, else 0.");
        dueRound("+0+1+2", rounded(ring(3, 10, false)));
        dueRound("+0-1+2", rounded(ring(3, 10, false), x -> x.sides(1, 0)));
        dueRound("+0-0+2-2", rounded(ring(3, 10, false), x -> x.shut(1, true)));
        dueRound("+0+1+1-1+2", rounded(ring(3, 10, false), x -> x.sides(1, 2)));
        dueRound("+0+0", rounded(line(2, 10), x -> x.sides(0, 2)));
    }

    private static void joining() {
        says("Terms 4", "JOINING: as long as there is a STREET with TIMES above 0 that cannot be come to from THE DEPOT along such STREETS");
        PloughDepot x = rounded(line(3, 10));
        dueMaking(x, 0, 0, 1, 1);
        // STREETS 0, 2, 4, .. of 60 CROSSINGS in a line: 29 of them must be joined, one behind the other
        x = made(line(60, 10000));
        for (int s = 0; s < 59; s++) {
            x.sides(s, s % 2 == 0 ? 2 : 0);
        }
        due(118, x.round());
        dueMaking(x, 29, 0, 0, 1);
        due(60, x.length(2));
        due(1180000, x.length(1));
        due(58, x.at(58, 0));
        due(58, x.at(59, 0));

        says("Terms 4", "of all THE WAYS from a CROSSING that can be come to so (THE DEPOT can) to a CROSSING of such a STREET "
            + "the one of least LENGTH");
        x = rounded(line(3, 10), y -> y.sides(0, 0));
        dueRound("-0+1-1-0", x);
        dueMaking(x, 1, 0, 1, 1);
        // 3 is nearest to 0, and then 1 is nearer to 3 than to 0
        x = rounded(crossings(5), lane(0, 3, 5), lane(0, 1, 6), lane(3, 1, 5), twice(1, 2, 1), twice(3, 4, 1));
        dueRound("-0-2+3+3-2+4+4-0", x);
        dueMaking(x, 2, 0, 0, 1);
        // from 4 as well, which was joined by 3: that is 1 less than from 3
        x = rounded(crossings(5), lane(0, 3, 5), lane(0, 1, 6), lane(4, 1, 4), twice(1, 2, 1), twice(3, 4, 1), lane(3, 1, 5));
        dueRound("-0+4-2+3+3-2+4-0", x);
        dueMaking(x, 2, 0, 0, 1);

        says("Terms 4", "TIMES of its STREETS become 2 more.");
        // a WAY of three STREETS, there and back
        x = rounded(line(5, 10), y -> y.sides(0, 0), y -> y.sides(1, 0), y -> y.sides(2, 0), y -> y.sides(3, 2));
        dueRound("-0-1-2+3+3-2-1-0", x);
        dueMaking(x, 1, 0, 0, 1);
    }

    private static void joiningOfSeveral() {
        says("Terms 4", "(the least first CROSSING of several, then the least last one)");
        // 0 to 3 and 1 to 2 are as far: 0 is the lesser first one
        PloughDepot x = rounded(crossings(4), lane(1, 2, 4), lane(0, 3, 4), twice(0, 1, 1), twice(2, 3, 1));
        dueRound("-1+3+3-1+2+2", x);
        // 0 to 3 and 0 to 2 are as far: 2 is the lesser last one
        x = rounded(crossings(4), lane(0, 3, 4), lane(0, 2, 4), twice(0, 1, 1), twice(2, 3, 1));
        dueRound("-1+3+3-1+2+2", x);
        // 1 less is nearer, whatever the numbers are
        x = rounded(crossings(4), lane(0, 2, 4), lane(1, 3, 3), twice(0, 1, 1), twice(2, 3, 1));
        dueRound("+2-1+3+3-1+2", x);
    }

    private static void noJoining() {
        says("Terms 4", "(No WAY: NO.)");
        refused(and(BUSY, x -> x.street(5, 6, 9, false)), NO, PloughDepot::round);
        refused(and(BUSY, x -> x.street(5, 6, 9, false), x -> x.sides(5, 2)), NO, PloughDepot::round);
        change(and(BUSY, x -> x.street(5, 6, 9, false), x -> x.sides(5, 0)), 5, PloughDepot::round);
        refused(and(line(4, 10), x -> x.shut(1, true)), NO, PloughDepot::round);
        // one part can be joined, the other one cannot
        refused(and(line(5, 10), x -> x.sides(0, 0), x -> x.shut(2, true)), NO, PloughDepot::round);
        refused(and(crossings(3), x -> x.street(1, 2, 5, false)), NO, PloughDepot::round);
    }

    private static void oddCrossings() {
        says("Terms 4", "ODD are the CROSSINGS at which the sum of TIMES of STREETS there is odd, in order.");
        // JOINING makes no CROSSING ODD or even
        PloughDepot x = rounded(line(4, 10), y -> y.sides(0, 0));
        dueMaking(x, 1, 0, 1, 1);
        duePartners(x, 1, 3);
        due(NONE, x.partner(0));
        due(NONE, x.partner(2));
        // all with 2 SIDES: none is
        dueMaking(rounded(line(4, 10), y -> y.sides(0, 2), y -> y.sides(1, 2), y -> y.sides(2, 2)), 0, 0, 0, 1);
        // 3 STREETS with 1 SIDE at one CROSSING, and 3 with 2
        x = rounded(star(3, 10));
        dueMaking(x, 0, 0, 2, 1);
        duePartners(x, 0, 1, 2, 3);
        dueMaking(rounded(star(3, 10), y -> y.sides(0, 2), y -> y.sides(1, 2), y -> y.sides(2, 2)), 0, 0, 0, 1);
    }

    /** A ring of lanes 1 - 2 - .. - 6 - 1, of 3 and 2 in turns: no EXCHANGE of two PAIRS of 3 is better, but all three of 2 are. */
    private static final Town HEXAGON = and(STAR, lane(1, 2, 3), lane(3, 4, 3), lane(5, 6, 3), lane(2, 3, 2), lane(4, 5, 2), lane(6, 1, 2));

    private static void exactPairs() {
        says("Terms 4", "They are PAIRED: if there are 14 or less, so that THE WAYS of the PAIRS (from the lesser CROSSING) are least together");
        PloughDepot x = rounded(HEXAGON, y -> y.sides(14, 0), y -> y.sides(15, 0));
        duePartners(x, 1, 6, 2, 3, 4, 5, 7, 8, 9, 10, 11, 12, 13, 14);
        dueMaking(x, 0, 0, 7, 1);
        due(14 * 100 + 3 * 2 + 4 * 200, x.length(1));
        x = rounded(HEXAGON);
        duePartners(x, 1, 2, 3, 4, 5, 6, 7, 8, 9, 10, 11, 12, 13, 14, 15, 16);
        dueMaking(x, 0, 0, 8, 1);
        due(16 * 100 + 3 * 3 + 5 * 200, x.length(1));
        // from the lesser CROSSING: 1 to 2 by 3 and 6; from 2 it would be by 5 and 4
        x = rounded(crossings(7), lane(1, 3, 2), lane(3, 6, 2), lane(6, 2, 2), lane(1, 4, 2), lane(4, 5, 2), lane(5, 2, 2), road(0, 1, 50),
            road(0, 2, 50));
        dueRound("+6-0-1-2+7", x);
    }

    private static void pairsOfSeveral() {
        says("Terms 4", "of several such: that in which the least CROSSING has the least partner, then the least one of those left, and on.");
        PloughDepot x = rounded(star(14, 5));
        duePartners(x, 1, 2, 3, 4, 5, 6, 7, 8, 9, 10, 11, 12, 13, 14);
        dueMaking(x, 0, 0, 7, 1);
        // 1 with 6 is nearer; those left are all as far
        x = rounded(star(6, 10), lane(1, 6, 1));
        duePartners(x, 1, 6, 2, 3, 4, 5);
        // 1 with 2 costs as much as 1 with 3, or with 4
        x = rounded(star(4, 10), lane(1, 2, 7), lane(3, 4, 7), lane(1, 3, 7), lane(2, 4, 7), lane(1, 4, 7), lane(2, 3, 7));
        duePartners(x, 1, 2, 3, 4);
        // 1 less decides
        x = rounded(star(4, 10), lane(1, 2, 7), lane(3, 4, 7), lane(1, 3, 7), lane(2, 4, 7), lane(1, 4, 7), lane(2, 3, 6));
        duePartners(x, 1, 4, 2, 3);
    }

    private static void pairsInOrder() {
        says("Terms 4", "If there are more: the first with the second, the third with the fourth, and on");
        PloughDepot x = rounded(STAR);
        duePartners(x, 1, 2, 3, 4, 5, 6, 7, 8, 9, 10, 11, 12, 13, 14, 15, 16);
        dueMaking(x, 0, 0, 8, 1);
        // all 60 ODD: a line of 60 has two, each other one a STREET of its own besides
        x = made(crossings(60));
        for (int c = 0; c < 60; c += 2) {
            x.street(c, c + 1, 10000, false);
        }
        for (int c = 1; c < 59; c += 2) {
            x.sides(x.street(c, c + 1, 1, false), 2);
        }
        due(30 + 58 + 30, x.round());
        dueMaking(x, 0, 0, 30, 1);
        for (int c = 0; c < 60; c += 2) {
            duePartners(x, c, c + 1);
        }
        due(59, x.odd(59));
        due(NONE, x.odd(60));
    }

    private static void exchanges() {
        says("Terms 4", "of the PAIRS as they stand, the first i, then the first j behind it");
        PloughDepot x = rounded(STAR, lane(1, 3, 1), lane(1, 5, 1));
        duePartners(x, 1, 3, 2, 4, 5, 6);
        dueMaking(x, 0, 1, 8, 1);
        x = rounded(STAR, lane(1, 5, 150), lane(3, 5, 150));
        duePartners(x, 1, 5, 2, 6, 3, 4);
        dueMaking(x, 0, 1, 8, 1);
        // the last i and the last j
        x = rounded(STAR, lane(13, 15, 199));
        duePartners(x, 13, 15, 14, 16, 1, 2);
        dueMaking(x, 0, 1, 8, 1);

        says("Terms 4", "if THE WAYS of (p, r), (q, s) are less together, these two stand at i and j; else, if (p, s), (q, r) are, these");
        // (1, 4), (2, 3) would be best, but (1, 3), (2, 4) are asked first, and are less
        x = rounded(STAR, lane(1, 3, 150), lane(1, 4, 1));
        duePartners(x, 1, 4, 2, 3);
        dueMaking(x, 0, 2, 8, 1);
        x = rounded(STAR, lane(1, 4, 1));
        duePartners(x, 1, 4, 2, 3);
        dueMaking(x, 0, 1, 8, 1);
        x = rounded(STAR, lane(2, 4, 1));
        duePartners(x, 1, 3, 2, 4);
        dueMaking(x, 0, 1, 8, 1);
        // as much is not less
        x = rounded(STAR, lane(1, 3, 200));
        duePartners(x, 1, 2, 3, 4);
        dueMaking(x, 0, 0, 8, 1);
        x = rounded(STAR, lane(1, 3, 199));
        duePartners(x, 1, 3, 2, 4);
        dueMaking(x, 0, 1, 8, 1);
    }

    private static void lesserFirst() {
        says("Terms 4", "(each its lesser CROSSING first): an EXCHANGE.");
        // (1, 2), (5, 6) become (1, 5), (2, 6); then (1, 5), (3, 4) become (1, 3), (4, 5); from 4 to 5 by 17 and 20, not by 18 and 19
        PloughDepot x = rounded(and(STAR, y -> y.crossings(4)), lane(1, 5, 150), lane(4, 17, 30), lane(17, 20, 40), lane(20, 5, 30),
            lane(4, 18, 30), lane(18, 19, 40), lane(19, 5, 30));
        duePartners(x, 1, 3, 4, 5, 2, 6);
        dueMaking(x, 0, 2, 8, 1);
        int[] driven = new int[23];
        for (int i = 0; i < x.length(0); i++) {
            driven[x.at(i, 0)]++;
        }
        for (int s = 16; s < 23; s++) {
            due(s >= 17 && s <= 19 ? 1 : 0, driven[s]);
        }

        says("Terms 4", "Then TIMES of the STREETS of THE WAYS of all PAIRS become 1 more.");
        due(16 + 3 + 2 * 7, x.length(0));
        for (int s = 0; s < 16; s++) {
            due(s == 3 || s == 4 ? 1 : 2, driven[s]);
        }
    }

    private static void drives() {
        says("Terms 4", "from THE DEPOT on always along the least STREET there that was driven less than its TIMES");
        dueRound("+0+1+2+3", rounded(crossings(2), road(0, 1, 5), road(1, 0, 5), road(0, 1, 5), road(1, 0, 5)));
        dueRound("+0+2+1", rounded(crossings(3), road(0, 1, 5), road(2, 0, 5), road(1, 2, 5)));

        says("Terms 4", "with which all that is left to be driven can still be come to, along what is left, from its other end.");
        // at 1 STREET 1 leads back to THE DEPOT too early
        dueRound("+0+2+3+1", rounded(crossings(3), road(0, 1, 5), road(1, 0, 5), road(1, 2, 5), road(2, 1, 5)));
        // at THE DEPOT STREET 0 may be driven, as what is left is joined by 1
        dueRound("+0+2+3+1+4+5", rounded(crossings(4), road(0, 1, 5), road(1, 0, 5), road(1, 2, 5), road(1, 2, 5), road(0, 3, 5), road(3, 0, 5)));
    }

    private static void clearOrEmpty() {
        says("Terms 4", "Of a STREET the first SIDES DRIVES CLEAR, others are EMPTY.");
        dueRound("+0-0", rounded(line(2, 10)));
        dueRound("+0+0", rounded(line(2, 10), x -> x.sides(0, 2)));
        dueRound("+0+1+1-1+2", rounded(ring(3, 10, false), x -> x.sides(1, 2)));
        due(2, rounded(line(3, 10)).length(2));
        due(3, rounded(line(3, 10), x -> x.sides(0, 2)).length(2));
    }

    private static void oneWays() {
        says("Terms 4", "from THE DEPOT on, as long as some STREET that MUST be cleared was not cleared by SIDES DRIVES");
        dueRound("+0+1+2", rounded(ring(3, 10, true)));
        dueRound("+0+1+2-0+1-2", rounded(ring(3, 10, true), x -> x.sides(1, 2)));
        dueRound("-0+1-2", rounded(ring(3, 10, true), x -> x.sides(0, 0), x -> x.sides(2, 0)));
        dueRound("", rounded(ring(3, 10, true), x -> x.sides(0, 0), x -> x.sides(1, 0), x -> x.sides(2, 0)));

        says("Terms 4", "of all THE WAYS to a CROSSING at which a DRIVE along such a STREET may begin the one of least LENGTH");
        // STREET 1 begins at 2 alone, though its end is THE DEPOT; STREET 2 is nearer by 1
        PloughDepot x = rounded(crossings(4), lane(0, 2, 5), oneWay(2, 0, 9, 1), road(3, 1, 3), lane(0, 3, 4));
        dueRound("-3+2-2-3-0+1", x);
        // BOTH WAYS it may begin at either end
        dueRound("+0+1-2", rounded(crossings(3), road(1, 0, 5), road(2, 1, 5), oneWay(2, 0, 5, 0)));

        says("Terms 4", "EMPTY along it, then along the STREET, which CLEARS.");
        // the WAY to STREET 2 is along STREET 1, which must be cleared as well, but is not by an EMPTY DRIVE
        x = rounded(crossings(3), oneWay(0, 1, 1, 0), oneWay(1, 2, 1, 2), oneWay(2, 0, 1, 0), oneWay(2, 0, 5, 1));
        dueRound("-0+1+3-0+1-2", x);
        dueMaking(x, 0, 0, 0, 2);
        due(3, x.length(2));

        says("Terms 4", "Then THE WAY back to THE DEPOT, EMPTY.");
        dueRound("+0-1", rounded(crossings(2), oneWay(0, 1, 5, 1), lane(1, 0, 5)));
        dueRound("+0-2-1", rounded(crossings(3), oneWay(0, 1, 5, 1), lane(2, 0, 5), lane(1, 2, 5)));
    }

    private static void nearestOfSeveral() {
        says("Terms 4", "(of several the least STREET, then a ahead of b)");
        dueRound("+1+0+2-0", rounded(crossings(2), oneWay(1, 0, 5, 1), road(0, 1, 5), road(0, 1, 5)));
        // both ends of STREET 2 are 5 away: it begins at 2, its a
        PloughDepot x = rounded(crossings(3), lane(0, 1, 5), lane(0, 2, 5), road(2, 1, 9), oneWay(1, 2, 99, 0));
        dueRound("-1+2-0", x);
        // a STREET of a greater number whose end is as near is behind it, though a CROSSING of a lesser number begins it
        x = rounded(crossings(4), lane(0, 1, 5), lane(0, 2, 5), oneWay(2, 0, 5, 1), oneWay(1, 0, 5, 1));
        dueRound("-1+2-0+3", x);
        // b that is nearer is ahead of a
        x = rounded(crossings(3), lane(0, 1, 4), lane(0, 2, 5), road(2, 1, 9), oneWay(1, 2, 99, 0));
        dueRound("-0+2-1", x);
        // a of STREET 2 is 5 away, its b 3, and STREET 4 behind it 4; then as far as b, or nearer
        Town three = and(crossings(4), lane(0, 1, 5), lane(0, 2, 3), road(1, 2, 9));
        dueRound("-1+2-0-3+4", rounded(three, lane(0, 3, 4), oneWay(3, 0, 4, 1)));
        dueRound("-1+2-0-3+4", rounded(three, lane(0, 3, 3), oneWay(3, 0, 4, 1)));
        dueRound("-3+4-1+2-0", rounded(three, lane(0, 3, 2), oneWay(3, 0, 4, 1)));
    }

    private static void noWayByB() {
        says("Terms 4", "Then THE WAY back to THE DEPOT, EMPTY. (No WAY: NO.)");
        refused(and(crossings(2), oneWay(0, 1, 5, 1)), NO, PloughDepot::round);
        refused(and(crossings(2), oneWay(1, 0, 5, 1)), NO, PloughDepot::round);
        refused(and(ring(3, 10, true), x -> x.shut(2, true)), NO, PloughDepot::round);
        refused(and(BUSY, x -> x.shut(4, false)), NO, PloughDepot::round);
        refused(and(BUSY, x -> x.oneWay(0, true), x -> x.street(5, 6, 9, false)), NO, PloughDepot::round);
        // nothing to be cleared there, no WAY is asked for
        change(and(crossings(2), oneWay(0, 1, 5, 0)), 0, PloughDepot::round);
        change(and(BUSY, x -> x.shut(4, false), x -> x.sides(4, 0)), 7, PloughDepot::round);
        dueRound("+0+1+2-2+3+3-2", rounded(BUSY, x -> x.shut(4, false), x -> x.sides(4, 0)));
    }

    /** One way round by so many CROSSINGS, and so many SIDES of STREETS side by side: each takes a whole turn. */
    private static Town turns(int crossings, int sides) {
        return and(crossings(crossings), x -> {
            for (int c = 1; c < crossings; c++) {
                x.sides(x.street(c, (c + 1) % crossings, 1, true), 0);
            }
            for (int left = sides; left > 0; left -= 2) {
                x.sides(x.street(0, 1, 1, true), Math.min(2, left));
            }
            return 0;
        });
    }

    private static void fullOfDrives() {
        says("Terms 4", "FULL: above 2000 DRIVES (in (A) asked behind the PAIRS, in (B) ahead of each DRIVE).");
        change(turns(20, 100), 2000, PloughDepot::round);
        PloughDepot x = rounded(turns(20, 100));
        due(2000, x.length(0));
        due(2000, x.length(1));
        due(100, x.length(2));
        due(18, x.at(1999, 0));
        due(0, x.at(1999, 2));
        due(NONE, x.at(2000, 0));
        // the next one would CLEAR; or be an EMPTY one back to THE DEPOT (23 * 87 = 2001)
        refused(turns(20, 101), FULL, PloughDepot::round);
        refused(turns(23, 87), FULL, PloughDepot::round);
        change(turns(23, 86), 1978, PloughDepot::round);
        refused(and(turns(20, 99), PloughDepot::round, y -> y.sides(69, 2), y -> y.sides(68, 2), y -> y.sides(y.street(0, 1, 1, true), 2)), FULL,
            PloughDepot::round);
    }

    private static void fullOrNo() {
        says("Terms 5", "as a call meets them");
        // a STREET that no WAY leads to is met behind all others: behind 2000 DRIVES NO, and FULL ahead of a 2001st
        Town far = and(turns(20, 100), x -> x.crossings(2), x -> x.street(20, 21, 5, false));
        refused(far, NO, PloughDepot::round);
        refused(and(far, x -> x.street(0, 1, 1, true)), FULL, PloughDepot::round);
        // no WAY back behind 2000 DRIVES: STREET 18 to THE DEPOT is the last of each turn
        Town end = and(turns(20, 100), x -> x.crossings(1), x -> x.street(0, 20, 1, true));
        refused(end, FULL, PloughDepot::round);
        refused(and(turns(20, 99), x -> x.crossings(1), x -> x.sides(x.street(0, 20, 1, true), 1)), NO, PloughDepot::round);
    }

    private static void whatIsLeft() {
        says("Terms 4", "What is refused leaves THE ROUND that was.");
        PloughDepot x = made(and(BUSY, y -> y.street(5, 6, 9, false)));
        due(NO, x.round());
        dueRound("+0+1+3+3+2", x);
        due(4, x.part(0, 1));
        due(3, x.go(0, 50));

        says("Terms 4", "With another ROUND no PLOUGH has a PART.");
        x = made(BUSY);
        due(5, x.round());
        int[][] minutesAndKinds = {{8, 0}, {500, 1}, {100, NONE}, {100, NONE}, {300, 4}, {200, 2}, {50, NONE}};
        for (int p = 0; p < 7; p++) {
            duePart(x, p, 0, 0, 0, 0, 0, minutesAndKinds[p][0], minutesAndKinds[p][1], 0, 0);
        }
        due(NO, x.go(0, 1));
    }

    // ---- the promises

    private static void oddCall() {
        says("Promise 25", "The i-th ODD CROSSING (by STREETS that MUST be cleared as they are, whatever their ways); NONE: none such.");
        Town town = and(line(4, 10), x -> x.sides(1, 2), x -> x.crossings(1));
        int[] want = {NONE, 0, 1, 2, 3, NONE};
        for (int i = -1; i < 5; i++) {
            int at = i;
            noChange(town, want[i + 1], x -> x.odd(at));
        }
        noChange(town, NONE, x -> x.odd(MAX));
        noChange(town, NONE, x -> x.odd(MIN));
        // whatever their ways; but not SHUT, not of no SIDES
        due(3, made(and(town, x -> x.oneWay(2, true))).odd(3));
        due(1, made(and(town, x -> x.oneWay(2, true), x -> x.oneWay(0, true))).odd(1));
        due(1, made(and(town, x -> x.shut(2, true))).odd(1));
        due(NONE, made(and(town, x -> x.shut(2, true))).odd(2));
        due(NONE, made(and(town, x -> x.sides(0, 0))).odd(2));
        due(2, made(and(town, x -> x.sides(0, 0))).odd(0));
        // as they are: cleared SIDES are no other than those that are not, and what must be joined is not asked
        due(NONE, made(BUSY).odd(0));
        due(5, made(and(BUSY, x -> x.street(5, 6, 9, false))).odd(0));
        due(6, made(and(BUSY, x -> x.street(5, 6, 9, false))).odd(1));
        PloughDepot x = made(STAR);
        due(1, x.odd(0));
        due(16, x.odd(15));
        due(NONE, x.odd(16));
    }

    private static void leastCall() {
        says("Promise 26", "LEAST of a set of ODD CROSSINGS (as bits, by i): the least that THE WAYS together have that PAIR them.");
        // ODD: 1 .. 14, each 5 from THE DEPOT
        Town town = star(14, 5);
        noChange(town, 0, x -> x.least(0));
        noChange(town, 10, x -> x.least(3));
        noChange(town, 10, x -> x.least(1 | 1 << 13));
        noChange(town, 70, x -> x.least((1 << 14) - 1));
        // 0 is ODD, too: by i, not by number
        Town odd = and(star(3, 5), x -> x.crossings(1));
        int[] want = {0, NO, NO, 5, NO, 5, 10, NO, NO, 5, 10, NO, 10, NO, NO, 15};
        for (int bits = 0; bits < 16; bits++) {
            int b = bits;
            if (want[b] == NO) {
                refused(odd, NO, x -> x.least(b));
            } else {
                noChange(odd, want[b], x -> x.least(b));
            }
        }
        // THE WAYS as they are now
        PloughDepot x = made(odd);
        due(10, x.least(6));
        x.sides(x.street(1, 2, 3, false), 0);
        due(3, x.least(6));
        x.shut(3, true);
        due(10, x.least(6));
        x.undo();
        due(3, x.least(6));
        due(59 * 10000, made(line(60, 10000)).least(3));
        noChange(EMPTY, 0, y -> y.least(0));
    }

    private static void leastRefusals() {
        says("Promise 26", "BAD: other bits; more than 14 are ODD; an OPEN STREET is ONE WAY; NO: they cannot be PAIRED.");
        for (int bits : new int[] {1 << 14, (1 << 14) + 3, -1, MIN, MAX, 1 << 30}) {
            refused(star(14, 5), BAD, x -> x.least(bits));
        }
        for (int bits : new int[] {1, 2, 4, -1, MIN}) {
            refused(ring(3, 5, false), BAD, x -> x.least(bits));
            refused(EMPTY, BAD, x -> x.least(bits));
        }
        for (int bits : new int[] {0, 3, 1, 1 << 16, -1}) {
            refused(STAR, BAD, x -> x.least(bits));
        }
        Town oneWay = and(star(3, 5), oneWay(1, 2, 5, 0));
        refused(oneWay, BAD, x -> x.least(0));
        refused(oneWay, BAD, x -> x.least(3));
        refused(oneWay, BAD, x -> x.least(1));
        noChange(and(oneWay, x -> x.shut(3, true)), 5, x -> x.least(3));
        noChange(and(oneWay, x -> x.oneWay(3, false)), 5, x -> x.least(3));
        // an odd number of them; no WAY between two of them
        refused(star(14, 5), NO, x -> x.least(1));
        refused(star(14, 5), NO, x -> x.least((1 << 13) - 1));
        Town apart = and(crossings(4), x -> x.street(0, 1, 5, false), x -> x.street(2, 3, 6, false));
        refused(apart, NO, x -> x.least(1 | 4));
        refused(apart, NO, x -> x.least(7));
        noChange(apart, 11, x -> x.least(15));
        noChange(apart, 6, x -> x.least(12));
    }

    private static void roundCall() {
        says("Promise 27", "Makes THE ROUND: how many DRIVES. A CHANGE.");
        change(BUSY, 5, PloughDepot::round);
        change(and(BUSY, x -> x.sides(1, 0), x -> x.shut(3, true)), 3, PloughDepot::round);
        change(and(BUSY, x -> x.oneWay(0, true)), 7, PloughDepot::round);

        says("Promise 27", "NO; FULL. (No CROSSINGS, nothing to be cleared: 0.)");
        change(EMPTY, 0, PloughDepot::round);
        change(crossings(1), 0, PloughDepot::round);
        change(and(line(3, 10), x -> x.sides(0, 0), x -> x.sides(1, 0)), 0, PloughDepot::round);
        change(and(line(3, 10), x -> x.shut(0, true), x -> x.shut(1, true)), 0, PloughDepot::round);
        Town cleared = and(BUSY, x -> x.shut(0, true), x -> x.shut(1, true), x -> x.shut(2, true), x -> x.shut(3, true));
        change(cleared, 0, PloughDepot::round);
        PloughDepot x = made(and(cleared, PloughDepot::round));
        due(0, x.length(0));
        due(NONE, x.at(0, 0));
        due(0, x.part(0, 1));
        dueMaking(x, 0, 0, 0, 1);
    }

    private static void atCall() {
        says("Promise 28", "DRIVE i of THE ROUND: 0 STREET, 1 from which CROSSING, 2 to which, 3 whether it CLEARS (1, 0).");
        int[][] want = {{0, 0, 1, 1}, {1, 1, 2, 1}, {1, 2, 1, 0}, {0, 1, 0, 0}};
        PloughDepot x = rounded(line(3, 10));
        for (int i = 0; i < 4; i++) {
            for (int what = 0; what < 4; what++) {
                due(want[i][what], x.at(i, what));
            }
        }
        noChange(BUSY, 3, y -> y.at(2, 0));

        says("Promise 28", "BAD: what; NONE: none such.");
        onlyFrom(BUSY, 0, 3, (y, n) -> y.at(0, n));
        for (int what = 0; what < 4; what++) {
            int w = what;
            for (int i : new int[] {-1, 5, MIN, MAX}) {
                noChange(BUSY, NONE, y -> y.at(i, w));
                refused(BUSY, BAD, y -> y.at(i, 4));
                refused(BUSY, BAD, y -> y.at(i, -1));
            }
        }
        noChange(EMPTY, NONE, y -> y.at(0, 0));
        refused(EMPTY, BAD, y -> y.at(0, 4));
    }

    private static void lengthCall() {
        says("Promise 29", "0 DRIVES, 1 LENGTH of all together, 2 how many CLEAR, 3 how often there was JOINING, 4 EXCHANGES, 5 PAIRS, "
            + "6 how it was made (0 not yet, 1 by (A), 2 by (B)).");
        int[][] want = {{0, 0, 0, 0, 0, 0, 0}, {5, 430, 5, 0, 0, 0, 1}, {31, 1600 + 1 + 200 * 7, 16, 0, 1, 8, 1}, {4, 40, 1, 1, 0, 1, 1}, {3, 30, 3, 0, 0, 0, 2}};
        Town[] towns = {line(3, 10), BUSY, and(STAR, lane(1, 3, 1), PloughDepot::round), and(line(3, 10), x -> x.sides(0, 0), PloughDepot::round),
            and(ring(3, 10, true), PloughDepot::round)};
        for (int k = 0; k < towns.length; k++) {
            for (int what = 0; what < 7; what++) {
                int w = what;
                noChange(towns[k], want[k][what], x -> x.length(w));
            }
        }
        // not yet, once more
        PloughDepot x = rounded(line(3, 10));
        due(1, x.length(6));
        due(1, x.undo());
        for (int what = 0; what < 7; what++) {
            due(0, x.length(what));
        }

        says("Promise 29", "BAD.");
        onlyFrom(BUSY, 0, 6, PloughDepot::length);
        onlyFrom(EMPTY, 0, 6, PloughDepot::length);
    }

    private static void dueLengths(PloughDepot x, int... want) {
        for (int what = 0; what < 7; what++) {
            due(want[what], x.length(what));
        }
    }

    private static void roundsOneBehindTheOther() {
        says("Promise 29", "Of THE ROUND");
        // nothing is left of those ahead of it
        PloughDepot x = rounded(line(3, 10));
        dueLengths(x, 4, 40, 2, 0, 0, 1, 1);
        due(4, x.round());
        dueLengths(x, 4, 40, 2, 0, 0, 1, 1);
        x.sides(0, 0);
        due(4, x.round());
        dueLengths(x, 4, 40, 1, 1, 0, 1, 1);
        due(2, x.street(2, 0, 7, true));
        due(3, x.round());
        dueLengths(x, 3, 27, 2, 0, 0, 0, 2);
        x.shut(2, true);
        x.sides(1, 2);
        due(4, x.round());
        dueLengths(x, 4, 40, 2, 1, 0, 0, 1);
        x.sides(1, 0);
        due(0, x.round());
        dueLengths(x, 0, 0, 0, 0, 0, 0, 1);
        // EXCHANGES, then as many, then 14 ODD CROSSINGS and none
        x = rounded(STAR, lane(1, 3, 1));
        dueLengths(x, 31, 1600 + 1 + 200 * 7, 16, 0, 1, 8, 1);
        due(31, x.round());
        dueLengths(x, 31, 1600 + 1 + 200 * 7, 16, 0, 1, 8, 1);
        x.shut(0, true);
        x.shut(1, true);
        due(28, x.round());
        dueLengths(x, 28, 2800, 14, 0, 0, 7, 1);

        says("Terms 4", "from THE DEPOT on");
        // behind one that was refused on its way, too
        Town ending = and(crossings(2), oneWay(0, 1, 5, 1));
        x = made(ending);
        due(NO, x.round());
        x.sides(x.street(1, 0, 6, true), 0);
        due(2, x.round());
        dueRound("+0-1", x);
        dueLengths(x, 2, 11, 1, 0, 0, 0, 2);
        x = made(ending);
        due(NO, x.round());
        x.oneWay(0, false);
        due(2, x.round());
        dueRound("+0-0", x);
        dueLengths(x, 2, 10, 1, 0, 0, 1, 1);
    }

    private static void partnerCall() {
        says("Promise 30", "With which CROSSING a CROSSING was PAIRED in THE ROUND; NONE.");
        Town town = and(line(3, 10), PloughDepot::round, x -> x.crossings(1));
        noChange(town, 2, x -> x.partner(0));
        noChange(town, NONE, x -> x.partner(1));
        noChange(town, 0, x -> x.partner(2));
        noChange(town, NONE, x -> x.partner(3));
        noChange(line(3, 10), NONE, x -> x.partner(0));
        // in THE ROUND that was made, whatever is ODD now
        due(2, made(and(town, x -> x.sides(0, 2), x -> x.sides(1, 2))).partner(0));
        // another ROUND, by (A) without PAIRS and by (B), and one that is refused
        due(NONE, made(and(town, x -> x.sides(0, 2), x -> x.sides(1, 2), PloughDepot::round)).partner(0));
        due(NONE, made(and(town, oneWay(2, 0, 10, 1), PloughDepot::round)).partner(0));
        due(2, made(and(town, oneWay(2, 0, 10, 1), PloughDepot::round, PloughDepot::undo)).partner(0));
        due(2, made(and(town, x -> x.shut(0, true), PloughDepot::round)).partner(0));

        says("Promise 30", "BAD.");
        onlyFrom(town, 0, 3, PloughDepot::partner);
        onlyFrom(crossings(60), 0, 59, PloughDepot::partner);
    }
}
