/**
 * Each question is asked of the back as it is now: from where one is, OUT or BACK, by the LADDERS that are down, on the
 * least CELLS; its MINUTES begin with 0.
 */
public final class QuestionsTest {
    private static final int NONE = Sentences.NONE;
    /** A seed by which GOERS 2, 4, 3, 1 turn ahead of the first four MINUTES: who is there alone is not turned in them. */
    private static final int SEED = 1;

    public static void main(String[] names) {
        Sentences.run(QuestionsTest.class, names);
    }

    private static void due(String call, long got, long want) {
        Sentences.due(call, got, want);
    }

    /** All pairs that rest for GOERS 0 and 1. */
    private static void pairs(IronStairs x, int... rest) {
        due("shy(0, 1, NONE)", x.shy(0, 1, NONE), rest.length);
        for (int k = 0; k < rest.length; k++) due("shy(0, 1, " + k + ")", x.shy(0, 1, k), rest[k]);
    }

    // ---- BACK

    /** GOER 0 is a BOOT on his way BACK from 2 to 0. */
    private static IronStairs goingBack() {
        IronStairs x = Sentences.goers(1, 0, 3);
        x.minutes(2);
        x.turns(0);
        return x;
    }

    @Sentences.Holds("Terms: WHERE a GOER is behind m MINUTES, who goes HOME again (BACK)")
    private static void whereOfOneWhoGoesBack() {
        int[] way = {2, 1, 0, 0};
        for (int m = 0; m < way.length; m++) due("where(0, " + m + ")", goingBack().where(0, m), way[m]);
    }

    @Sentences.Holds("Terms: NEXT: the CELL to which one steps next; LOUD: how loud one's step is: who goes HOME again (BACK)")
    private static void nextOfOneWhoGoesBack() {
        IronStairs x = Sentences.goers(1, 0, 3);
        x.minutes(3);
        due("NEXT of who is there", x.of(0, 5), 3);
        due("LOUD of who is there", x.of(0, 6), 0);
        x.turns(0);
        due("NEXT", x.of(0, 5), 2);
        due("LOUD", x.of(0, 6), 3);
    }

    @Sentences.Holds("Terms: HEARS of a WINDOW: GOERS (bits) whose steps of this MINUTE it HEARS: who goes HOME again (BACK)")
    private static void heardGoingBack() {
        IronStairs x = Sentences.goers(1, 0, 3);
        x.window(4, 3);
        x.minutes(3);
        due("of who is there", x.about(0, 2), 0);
        x.turns(0);
        due("of who goes BACK", x.about(0, 2), 1);
    }

    @Sentences.Holds("Terms: MEET of two unlike GOERS: who goes HOME again (BACK)")
    private static void meetGoingBack() {
        IronStairs x = goingBack();
        x.goer(0, 0, 0);
        x.goer(0, 3, 3);
        due("at HOME", x.meet(0, 1), 2);
        due("at HOME, the other way round", x.meet(1, 0), 2);
        due("where he would be OUT", x.meet(0, 2), NONE);
    }

    @Sentences.Holds("Terms: WAIT for a GOER and another one: who goes HOME again (BACK)")
    private static void waitsGoingBack() {
        IronStairs x = goingBack();
        x.goer(0, 0, 0);
        x.goer(0, 3, 3);
        due("so that both are at HOME", x.waits(0, 1, 1), 0);
        due("so that they never are", x.waits(0, 1, 0), NONE);
        due("never at the WANT", x.waits(0, 2, 1), NONE);
        due("for one who goes BACK", x.waits(1, 0, 1), 0);
    }

    @Sentences.Holds("Terms: WHO: GOERS (bits) whose next step behind so many MINUTES (as all go from now on): who goes HOME again (BACK)")
    private static void whoGoesBack() {
        IronStairs x = goingBack();
        x.window(4, 1);
        x.sound(0, 1, 3);
        due("the second step BACK", x.who(), 1);
        x.turns(0);
        due("OUT there is only one", x.who(), 0);
    }

    @Sentences.Holds("Terms: SHY: GOERS stay where they are, then go: who goes HOME again (BACK)")
    private static void shyGoingBack() {
        // b leaves 1 behind his stay, a comes there behind his and one: they meet if j is more than i, so b never stays
        IronStairs x = goingBack();
        x.ladder(1);
        x.goer(0, 1, 5);
        pairs(x, 0, 10, 20);
    }

    @Sentences.Holds("Terms: NIGHTS: steps of who goes HOME again (BACK)")
    private static void nightsGoingBack() {
        IronStairs x = goingBack();
        x.window(4, 1);
        due("from 2 and from 1", x.nights(SEED, 3), 2);
    }

    // ---- from where one is

    /** GOER 0 is a BOOT on his way from 0 to 3, in CELL n. */
    private static IronStairs gone(int n) {
        IronStairs x = Sentences.goers(1, 0, 3);
        x.minutes(n);
        return x;
    }

    @Sentences.Holds("Terms: WHERE a GOER is behind m MINUTES: from where he is now")
    private static void whereFromNowOn() {
        due("where(0, 0)", gone(2).where(0, 0), 2);
        due("where(0, 1)", gone(2).where(0, 1), 3);
    }

    @Sentences.Holds("Terms: MEET of two unlike GOERS: from where they are now")
    private static void meetFromNowOn() {
        IronStairs x = gone(2);
        x.goer(0, 3, 3);
        x.goer(0, 1, 1);
        due("at the WANT", x.meet(0, 1), 1);
        due("the other way round", x.meet(1, 0), 1);
        due("where he was before", x.meet(0, 2), NONE);
    }

    @Sentences.Holds("Terms: WAIT for a GOER and another one: from where they are now")
    private static void waitsFromNowOn() {
        IronStairs x = gone(2);
        x.goer(0, 1, 1);
        due("where he was before", x.waits(0, 1, 1), NONE);
        due("the other way round", x.waits(1, 0, 1), NONE);
        due("never", x.waits(0, 1, 0), 0);
    }

    @Sentences.Holds("Terms: DOWN: how many MINUTES until all GOERS are on FLOOR 0; who has no WAY: from where they are now")
    private static void downFromNowOn() {
        IronStairs x = Sentences.told("back;ladder 0;goer 0 0 4;goer 0 4 0;minutes 1;");
        due("one went up, one down", x.down(0), 1);
        x.draws(0);
        due("who has no WAY", x.down(1), 1);
        x = Sentences.told("back;ladder 0;goer 0 4 0;minutes 1;");
        due("one went down", x.down(0), 0);
        due("one is on the way", Sentences.told("back;ladder 0;ladder 4;goer 0 0 8;minutes 1;").down(0), 1);
    }

    @Sentences.Holds("Terms: CUT: .. most GOERS have no WAY to FLOOR 0: from where they are now")
    private static void cutFromNowOn() {
        // both are in 4: one from 0 up to 8, one from 8 down to 0
        IronStairs x = Sentences.told("back;ladder 0;ladder 4;goer 0 0 8;goer 0 8 0;minutes 1;");
        due("the first", x.cut(0), 0);
        due("how many without the first", x.cut(1), 2);
        x.draws(0);
        due("the second is all that is down", x.cut(0), 1);
        due("how many then", x.cut(1), 2);
    }

    @Sentences.Holds("Terms: DOORS: all GOERS go to HOMES of GOERS, as FAR together as is least: from where they are now")
    private static void doorsFromNowOn() {
        IronStairs x = Sentences.goers(0, 0, 2, 0, 3, 1);
        due("all at HOME", x.doors(NONE), 0);
        x.minutes(2);
        due("how much", x.doors(NONE), 2);
        due("the one's HOME is the other's now", x.doors(0), 1);
        due("and the other way round", x.doors(1), 0);
    }

    @Sentences.Holds("Terms: WHO: GOERS (bits) whose next step behind so many MINUTES: from where they are now")
    private static void whoFromNowOn() {
        IronStairs x = gone(2);
        x.window(4, 1);
        x.sound(0, 0, 3);
        due("the last step", x.who(), 1);
        x.sound(0, 1, 3);
        due("behind it there is none", x.who(), 0);
    }

    @Sentences.Holds("Terms: SHY: GOERS stay where they are, then go: from where they are now")
    private static void shyFromNowOn() {
        // as one beside: a comes to 2 behind his stay and one, b leaves it behind his
        IronStairs x = gone(1);
        x.ladder(2);
        x.goer(0, 2, 6);
        pairs(x, 0, 10, 20);
        // b has left 2 before: a meets nobody
        pairs(Sentences.told("back;ladder 2;goer 1 0 3;goer 0 2 6;minutes 1;"), 0, 1, 2, 10, 11, 12, 20, 21, 22);
    }

    @Sentences.Holds("Terms: NIGHTS: steps from where GOERS are now")
    private static void nightsFromNowOn() {
        IronStairs x = gone(2);
        x.window(4, 1);
        due("one step is left", x.nights(SEED, 3), 1);
    }

    // ---- by the LADDERS that are down

    /** GOER 0 is a BOOT from 0 to 4: straight up LADDER 0, or by LADDER 1, which is at CELL c. */
    private static IronStairs up(int c, boolean drawn) {
        IronStairs x = Sentences.goers(1, 0, 4);
        x.ladder(0);
        x.ladder(c);
        if (drawn) x.draws(0);
        return x;
    }

    @Sentences.Holds("Terms: WHERE a GOER is behind m MINUTES: by LADDERS as they are")
    private static void whereByLaddersThatAreDown() {
        int[] way = {0, 1, 2, 3, 7, 6, 5, 4, 4};
        for (int m = 0; m < way.length; m++) {
            due("drawn up: where(0, " + m + ")", up(3, true).where(0, m), way[m]);
            due("down: where(0, " + m + ")", up(3, false).where(0, m), m == 0 ? 0 : 4);
        }
    }

    @Sentences.Holds("Terms: HEARS of a WINDOW: GOERS (bits) whose steps of this MINUTE it HEARS: by LADDERS as they are")
    private static void heardByLaddersThatAreDown() {
        IronStairs x = Sentences.goers(1, 0, 4);
        x.ladder(0);
        x.window(4, 0);
        due("down", x.about(0, 2), 1);
        x.draws(0);
        due("drawn up", x.about(0, 2), 0);
        due("drawn up: LOUD", x.of(0, 6), 0);
    }

    @Sentences.Holds("Terms: MEET of two unlike GOERS: by LADDERS as they are")
    private static void meetByLaddersThatAreDown() {
        IronStairs x = up(3, true);
        x.goer(0, 3, 3);
        due("drawn up", x.meet(0, 1), 3);
        due("the other way round", x.meet(1, 0), 3);
        x.draws(0);
        due("down", x.meet(0, 1), NONE);
    }

    @Sentences.Holds("Terms: WAIT for a GOER and another one: by LADDERS as they are")
    private static void waitsByLaddersThatAreDown() {
        IronStairs x = up(3, true);
        x.goer(0, 3, 3);
        due("drawn up, to meet", x.waits(0, 1, 1), 0);
        due("drawn up, not to", x.waits(0, 1, 0), NONE);
        due("the other way round", x.waits(1, 0, 1), 0);
        x.draws(0);
        due("down, to meet", x.waits(0, 1, 1), NONE);
        due("down, not to", x.waits(0, 1, 0), 0);
    }

    @Sentences.Holds("Terms: DOWN: each by the shortest WAY for himself; who has no WAY: by LADDERS that are down")
    private static void downByLaddersThatAreDown() {
        IronStairs x = Sentences.told("back;ladder 0;ladder 3;goer 0 4 4;");
        due("down", x.down(0), 1);
        x.draws(0);
        due("drawn up", x.down(0), 4);
        x.draws(1);
        due("both", x.down(1), 1);
    }

    @Sentences.Holds("Terms: CUT: the LADDER that is down, without which most GOERS have no WAY: by the others that are down")
    private static void cutByLaddersThatAreDown() {
        IronStairs x = Sentences.told("back;ladder 0;ladder 3;goer 0 4 4;");
        due("either will do", x.cut(1), 0);
        x.draws(0);
        due("the only one", x.cut(0), 1);
        due("how many", x.cut(1), 1);
        x = Sentences.told("back;ladder 0;ladder 3;goer 0 8 8;draw 0;");
        due("who is drawn up is not it", x.cut(0), 1);
        due("who has no WAY anyway", x.cut(1), 1);
    }

    @Sentences.Holds("Terms: DOORS: .. as FAR together as is least: by LADDERS that are down")
    private static void doorsByLaddersThatAreDown() {
        IronStairs x = up(3, false);
        x.minutes(1);
        due("down", x.doors(NONE), 1);
        x.draws(0);
        due("drawn up", x.doors(NONE), 7);
        x.draws(1);
        due("both", x.doors(NONE), -6);
    }

    @Sentences.Holds("Terms: WHO: GOERS (bits) whose next step behind so many MINUTES: by LADDERS as they are")
    private static void whoByLaddersThatAreDown() {
        IronStairs x = up(3, true);
        x.window(4, 1);
        x.sound(0, 1, 3);
        due("drawn up", x.who(), 1);
        x.draws(0);
        due("down: one step is all", x.who(), 0);
    }

    @Sentences.Holds("Terms: SHY: GOERS stay where they are, then go: by LADDERS as they are")
    private static void shyByLaddersThatAreDown() {
        // a comes to 2 behind his stay and two, b leaves it behind his: b may stay one, but no more
        IronStairs x = up(2, true);
        x.goer(0, 2, 3);
        pairs(x, 0, 1, 10, 11, 20, 21);
        x.draws(0);
        pairs(x, 0, 1, 2, 10, 11, 12, 20, 21, 22);
    }

    @Sentences.Holds("Terms: ODDS: .. each LADDER that is down, apart, is drawn up: who is drawn up stays so")
    private static void oddsByLaddersThatAreDown() {
        IronStairs x = up(3, true);
        x.odds(0, 4, 3);
        Sentences.fraction("one is down", x, 7, 10);
        x.draws(0);
        x.odds(0, 4, 3);
        Sentences.fraction("both are down", x, 91, 100);
    }

    @Sentences.Holds("Terms: NIGHTS: steps by LADDERS as they are")
    private static void nightsByLaddersThatAreDown() {
        IronStairs x = up(1, true);
        x.window(4, 1);
        due("drawn up", x.nights(SEED, 4), 3);
        x.draws(0);
        due("down", x.nights(SEED, 4), 1);
    }

    // ---- on the least CELLS

    /** GOER 0 is a JUDGE from 0 to 5, by 1 or by 4: by 1. */
    private static IronStairs either() {
        IronStairs x = Sentences.goers(3, 0, 5);
        x.ladder(0);
        x.ladder(1);
        return x;
    }

    @Sentences.Holds("Terms: A MINUTE: .. a shortest WAY there (of CELLS that lead on the least): minutes, of")
    private static void stepsToTheLeast() {
        IronStairs x = either();
        due("NEXT", x.of(0, 5), 1);
        x.minutes(1);
        due("where", x.of(0, 3), 1);
        due("NEXT", x.of(0, 5), 5);
        x.minutes(1);
        x.turns(0);
        due("NEXT, BACK: down the ladder goes ahead of along", x.of(0, 5), 1);
        x = Sentences.told("back;ladder 0;ladder 1;goer 0 4 1;goer 0 1 4;");
        due("from 4 to 1", x.of(0, 5), 0);
        due("from 1 to 4", x.of(1, 5), 0);
    }

    @Sentences.Holds("Terms: A MINUTE: .. a shortest WAY there (of CELLS that lead on the least): minutes of a TEXT")
    private static void textStepsToTheLeast() {
        due("where", Sentences.told("back;ladder 0;ladder 1;goer 0 0 5;minutes 1;").of(0, 3), 1);
        due("where", Sentences.told("back;ladder 0;ladder 1;goer 0 5 0;minutes 1;").of(0, 3), 1);
    }

    @Sentences.Holds("Terms: WHERE a GOER is behind m MINUTES: on the least CELLS")
    private static void whereOnTheLeast() {
        due("where(0, 1)", either().where(0, 1), 1);
        due("where(0, 2)", either().where(0, 2), 5);
    }

    @Sentences.Holds("Terms: MEET of two unlike GOERS: on the least CELLS")
    private static void meetOnTheLeast() {
        IronStairs x = either();
        x.goer(0, 1, 1);
        x.goer(0, 4, 4);
        due("at 1", x.meet(0, 1), 1);
        due("at 1, the other way round", x.meet(1, 0), 1);
        due("not at 4", x.meet(0, 2), NONE);
    }

    @Sentences.Holds("Terms: WAIT for a GOER and another one: on the least CELLS")
    private static void waitsOnTheLeast() {
        IronStairs x = either();
        x.goer(0, 1, 1);
        x.goer(0, 4, 4);
        due("at 1", x.waits(0, 1, 1), 0);
        due("not at 4", x.waits(0, 2, 1), NONE);
        due("at 1, the other way round", x.waits(1, 0, 1), 0);
        due("not at 4, the other way round", x.waits(2, 0, 1), NONE);
    }

    @Sentences.Holds("Terms: WHO: GOERS (bits) whose next step behind so many MINUTES: on the least CELLS")
    private static void whoOnTheLeast() {
        IronStairs x = either();
        x.window(4, 1);
        x.sound(0, 1, 6);
        due("the second step is on FLOOR 0", x.who(), 1);
        x.forget(0);
        x.sound(0, 1, 3);
        due("and not on FLOOR 1", x.who(), 0);
    }

    @Sentences.Holds("Terms: SHY: GOERS stay where they are, then go: on the least CELLS")
    private static void shyOnTheLeast() {
        // a comes to 1 behind his stay and one, b leaves it behind his
        IronStairs x = either();
        x.goer(0, 1, 2);
        pairs(x, 0, 10, 20);
    }

    @Sentences.Holds("Terms: NIGHTS: steps on the least CELLS")
    private static void nightsOnTheLeast() {
        // a JUDGE is 6 loud on FLOOR 0, 3 on FLOOR 1, 3 far from the window
        IronStairs x = either();
        x.window(0, 2);
        due("from 0 and from 1", x.nights(SEED, 2), 2);
    }

    // ---- MINUTES that begin with 0: now

    @Sentences.Holds("Terms: WAIT .. so that both are (or never are) in one CELL within 60 MINUTES from now on: now counts")
    private static void waitsBeginNow() {
        IronStairs x = Sentences.goers(0, 1, 3, 0, 1, 0);
        due("to meet", x.waits(0, 1, 1), 0);
        due("not to", x.waits(0, 1, 0), NONE);
        due("not to, the other way round", x.waits(1, 0, 0), NONE);
    }

    @Sentences.Holds("Terms: SHY: .. if they are in one CELL within 30 MINUTES from now on: now counts")
    private static void shyBeginsNow() {
        // they meet now, whatever they do: nobody gets more by a stay, and up to 2 cost nothing
        pairs(Sentences.goers(0, 1, 3, 0, 1, 0), 0, 1, 2, 10, 11, 12, 20, 21, 22);
    }

    @Sentences.Holds("Terms: SOUNDS: behind m (0 .. 30) MINUTES from when WHO is asked: 0 is the step of this MINUTE")
    private static void soundsBeginNow() {
        IronStairs x = Sentences.goers(1, 0, 1, 1, 0, 3);
        x.window(4, 0);
        x.sound(0, 0, 3);
        due("this MINUTE", x.who(), 3);
        x.minutes(1);
        due("one later", x.who(), 2);
        x.minutes(2);
        due("when all are there", x.who(), 0);
    }
}
