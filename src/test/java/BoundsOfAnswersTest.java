/** What the questions answer where their sentences name a boundary: none, one, the first of like ones, halves that are cut. */
public final class BoundsOfAnswersTest {
    private static final int NONE = Sentences.NONE;
    /** The longest WAY there is, by all CELLS: along 0 .. 3, up to 7, along to 4, up to 8 and so on to 19. */
    private static final String LONG = "back;ladder 3;ladder 4;ladder 11;ladder 12;";

    public static void main(String[] names) {
        Sentences.run(BoundsOfAnswersTest.class, names);
    }

    private static void due(String call, long got, long want) {
        Sentences.due(call, got, want);
    }

    // ---- ways

    @Sentences.Holds("Terms: FAR: the fewest steps between two: none from a CELL to itself")
    private static void farToItself() {
        IronStairs x = new IronStairs();
        for (int c = 0; c < 20; c++) due("far(" + c + ", " + c + ")", x.far(c, c), 0);
        Sentences.refusals("far", x, 0, 0, 0);
    }

    @Sentences.Holds("Promise 16: FAR. NONE.")
    private static void farByNoWay() {
        IronStairs x = Sentences.told("back;ladder 0;draw 0;");
        due("drawn up", x.far(0, 4), NONE);
        due("no LADDER", x.far(4, 8), NONE);
        x.draws(0);
        due("down", x.far(0, 4), 1);
        Sentences.refusals("NONE", x, 0, 0, 0);
    }

    @Sentences.Holds("Terms: WAYS: along a FLOOR to the COLUMN beside (none beside 0 and 3)")
    private static void noWayRoundTheEndOfAFloor() {
        IronStairs x = new IronStairs();
        for (int c = 3; c < 16; c += 4) {
            due("from " + c + " on", x.far(c, c + 1), NONE);
            due("back to " + c, x.far(c + 1, c), NONE);
            due("along", x.far(c, c - 3), 3);
        }
        due("0 and 19", x.far(0, 19), NONE);
    }

    @Sentences.Holds("Terms: FAR: the fewest steps between two: the most there can be")
    private static void farthestOfAll() {
        IronStairs x = Sentences.told(LONG);
        due("far(0, 19)", x.far(0, 19), 19);
        due("far(19, 0)", x.far(19, 0), 19);
        due("far(0, 16)", x.far(0, 16), 16);
        x.ladder(0);
        due("a shorter one", x.far(0, 19), 13);
    }

    @Sentences.Holds("Terms: WHERE a GOER is behind m (0 .. 60) MINUTES: on the longest WAY")
    private static void whereOnTheLongestWay() {
        IronStairs x = Sentences.told(LONG + "goer 0 0 19;");
        int[] way = {0, 1, 2, 3, 7, 6, 5, 4, 8, 9, 10, 11, 15, 14, 13, 12, 16, 17, 18, 19, 19};
        for (int m = 0; m < way.length; m++) due("where(0, " + m + ")", x.where(0, m), way[m]);
        for (int m = 59; m <= 60; m++) due("where(0, " + m + ")", x.where(0, m), 19);
    }

    @Sentences.Holds("Terms: NEXT: the CELL to which one steps next (where one is: stays)")
    private static void nextOfWhoStays() {
        IronStairs x = Sentences.goers(0, 5, 5, 0, 6, 9, 0, 6, 7);
        due("there", x.of(0, 5), 5);
        due("no WAY", x.of(1, 5), 6);
        due("goes", x.of(2, 5), 7);
    }

    @Sentences.Holds("Terms: LOUD: how loud one's step in this MINUTE is (0: he stays)")
    private static void loudOfWhoStays() {
        IronStairs x = Sentences.goers(3, 0, 0, 3, 0, 4, 3, 0, 1);
        due("there", x.of(0, 6), 0);
        due("no WAY", x.of(1, 6), 0);
        due("goes", x.of(2, 6), 6);
    }

    // ---- kinds of goers

    /** By NOTES, how loud a KIND is on each FLOOR in an even and in an odd MINUTE. */
    private static void loud(int kind, int[] even, int[] odd) {
        for (int f = 0; f < 5; f++) {
            for (int m = 0; m < 2; m++) {
                IronStairs x = Sentences.goers(kind, 4 * f, 4 * f + 3);
                if (m == 1) x.minutes(1);
                due("LOUD on FLOOR " + f + " in MINUTE " + m, x.of(0, 6), m == 0 ? even[f] : odd[f]);
                x.note(0, f, 98 + m, m == 0 ? even[f] : odd[f]);
                due("is(0) of that", x.is(0) >> kind & 1, 1);
                x.note(0, f, m, (m == 0 ? even[f] : odd[f]) + 1);
                due("is(0) of one more", x.is(0) >> kind & 1, 0);
            }
        }
    }

    @Sentences.Holds("Terms: 0 SLIPPER: 1 and half (cut) of f.")
    private static void slipperByFloors() {
        loud(0, new int[] {1, 1, 2, 2, 3}, new int[] {1, 1, 2, 2, 3});
    }

    @Sentences.Holds("Terms: 1 BOOT (under SLIPPER): 2 more than SLIPPER.")
    private static void bootByFloors() {
        loud(1, new int[] {3, 3, 4, 4, 5}, new int[] {3, 3, 4, 4, 5});
    }

    @Sentences.Holds("Terms: 2 CHILD (under SLIPPER): as SLIPPER, but 0, if m is an even number.")
    private static void childByFloors() {
        loud(2, new int[] {0, 0, 0, 0, 0}, new int[] {1, 1, 2, 2, 3});
    }

    @Sentences.Holds("Terms: 3 JUDGE (under BOOT): twice BOOT on FLOOR 0, else as BOOT.")
    private static void judgeByFloors() {
        loud(3, new int[] {6, 3, 4, 4, 5}, new int[] {6, 3, 4, 4, 5});
    }

    @Sentences.Holds("Terms: 4 FUR (under SLIPPER): half (cut) of SLIPPER.")
    private static void furByFloors() {
        loud(4, new int[] {0, 0, 1, 1, 1}, new int[] {0, 0, 1, 1, 1});
    }

    @Sentences.Holds("Terms: 5 COOK (under BOOT): BOOT, less 1, if m is an odd number.")
    private static void cookByFloors() {
        loud(5, new int[] {3, 3, 4, 4, 5}, new int[] {2, 2, 3, 3, 4});
    }

    // ---- kinds of windows

    /** By MARKS, up to which d a KIND HEARS a step of each x from 0 on (NONE: at none); of louder ones at all. */
    private static void hearsUpTo(int kind, int... last) {
        for (int x = 0; x <= 20; x++) {
            IronStairs o = new IronStairs();
            o.window(0, 0);
            for (int d = 0; d <= 7; d++) {
                boolean heard = d <= (x < last.length ? last[x] : 7);
                o.mark(0, x, d, 1);
                due(x + " loud, " + d + " far, HEARD", o.kinds(0) >> kind & 1, heard ? 1 : 0);
                o.forget(2);
                o.mark(0, x, d, 0);
                due(x + " loud, " + d + " far, not HEARD", o.kinds(0) >> kind & 1, heard ? 0 : 1);
                o.forget(2);
            }
        }
    }

    @Sentences.Holds("Terms: it HEARS it, if that is 1 or more: 0 PLAIN: x less d.")
    private static void plainHears() {
        hearsUpTo(0, NONE, 0, 1, 2, 3, 4, 5, 6);
    }

    @Sentences.Holds("Terms: 1 LIGHT (under PLAIN): PLAIN and 2, if x is 1 or more.")
    private static void lightHears() {
        hearsUpTo(1, NONE, 2, 3, 4, 5, 6);
    }

    @Sentences.Holds("Terms: 2 DEAF (under PLAIN): half (cut) of PLAIN, if that is above 0, else as PLAIN.")
    private static void deafHears() {
        hearsUpTo(2, NONE, NONE, 0, 1, 2, 3, 4, 5, 6);
    }

    @Sentences.Holds("Terms: 3 LAMP (under LIGHT): 1, if d is 1 or 0, else as LIGHT.")
    private static void lampHears() {
        hearsUpTo(3, 1, 2, 3, 4, 5, 6);
    }

    @Sentences.Holds("Terms: 4 DOG (under LIGHT): LIGHT and x.")
    private static void dogHears() {
        hearsUpTo(4, NONE, 3, 5);
    }

    @Sentences.Holds("Terms: 5 OLD (under DEAF): DEAF, 2 at most.")
    private static void oldHears() {
        hearsUpTo(5, NONE, NONE, 0, 1, 2, 3, 4, 5, 6);
    }

    @Sentences.Holds("Terms: FLOORS and COLUMNS being so far (d; together, whatever the WAYS): up to 7")
    private static void floorsAndColumnsTogether() {
        // a BOOT's step is 3 loud at 0 and at 3: a DOG HEARS it as 8 less d, a LIGHT one as 5 less d
        for (int c = 0; c < 20; c++) {
            IronStairs x = Sentences.goers(1, 0, 3, 1, 3, 0);
            x.window(1, c);
            x.window(4, c);
            int d0 = c / 4 + c % 4;
            int d3 = c / 4 + 3 - c % 4;
            due("LIGHT at " + c, x.about(0, 2), (d0 <= 4 ? 1 : 0) + (d3 <= 4 ? 2 : 0));
            due("DOG at " + c, x.about(1, 2), 3);
        }
        // a BOOT's step is 5 loud at 16: a LIGHT one HEARS it as 7 less d, 6 far, but not 7 far
        for (int c = 0; c < 20; c++) {
            IronStairs x = Sentences.goers(1, 16, 17);
            x.window(1, c);
            due("LIGHT at " + c, x.about(0, 2), c == 3 ? 0 : 1);
        }
    }

    @Sentences.Holds("Terms: HEARS of a WINDOW: GOERS (bits) whose steps of this MINUTE it HEARS (who stays makes none)")
    private static void hearsNoneWhoStays() {
        IronStairs x = Sentences.goers(3, 0, 0, 3, 0, 4, 4, 0, 1, 3, 0, 1);
        x.window(3, 0);
        x.window(4, 0);
        due("LAMP: a step that is 0 loud, too", x.about(0, 2), 4 + 8);
        due("DOG: not one that is 0 loud", x.about(1, 2), 8);
    }

    // ---- meet, wait

    @Sentences.Holds("Terms: MEET .. in how many MINUTES (0 .. 60) both are in one CELL first: now")
    private static void meetNow() {
        due("at one CELL now", Sentences.goers(0, 1, 3, 0, 1, 0).meet(0, 1), 0);
        due("at one CELL, and for good", Sentences.goers(0, 1, 1, 0, 1, 1).meet(1, 0), 0);
    }

    @Sentences.Holds("Terms: MEET .. both are in one CELL first: of more the first")
    private static void meetFirst() {
        due("at 1 and for good", Sentences.goers(0, 0, 3, 0, 2, 3).meet(0, 1), 3);
        due("on the way and for good", Sentences.goers(0, 0, 2, 0, 2, 2).meet(0, 1), 2);
        due("in the middle, apart again", Sentences.goers(0, 0, 2, 0, 2, 0).meet(0, 1), 1);
    }

    @Sentences.Holds("Terms: MEET .. in how many MINUTES: the most there can be")
    private static void meetLast() {
        due("19", Sentences.told(LONG + "goer 0 0 19;goer 0 19 19;").meet(0, 1), 19);
        due("19", Sentences.told(LONG + "goer 0 0 19;goer 0 19 19;").meet(1, 0), 19);
    }

    @Sentences.Holds("Promise 18: MEET. NONE.")
    private static void meetNever() {
        IronStairs x = Sentences.goers(0, 0, 3, 0, 3, 0, 0, 4, 4);
        due("past one another", x.meet(0, 1), NONE);
        due("on other FLOORS", x.meet(0, 2), NONE);
        Sentences.refusals("NONE", x, 0, 0, 0);
        x = Sentences.goers(0, 0, 0, 0, 5, 5);
        due("one stays at 0", x.meet(0, 1), NONE);
        due("the other stays at 0", x.meet(1, 0), NONE);
    }

    @Sentences.Holds("Terms: WAIT .. how many MINUTES (0 .. 20) .. so that both are in one CELL: the least (0)")
    private static void waitsNotAtAllToMeet() {
        due("they meet anyway", Sentences.goers(0, 0, 2, 0, 2, 0).waits(0, 1, 1), 0);
        due("0 and 2 would do, 1 not", Sentences.goers(0, 0, 3, 0, 2, 1).waits(0, 1, 1), 0);
        due("now", Sentences.goers(0, 1, 3, 0, 1, 0).waits(0, 1, 1), 0);
    }

    @Sentences.Holds("Terms: WAIT .. so that both are in one CELL: the least (one)")
    private static void waitsOneToMeet() {
        due("past one another, but for one", Sentences.goers(0, 0, 3, 0, 3, 0).waits(0, 1, 1), 1);
    }

    @Sentences.Holds("Terms: WAIT .. (0 .. 20) .. so that both are in one CELL: the most there can be")
    private static void waitsLongestToMeet() {
        // who is at 18 and goes to 19 waits until the other one has come all the WAY to 18
        IronStairs x = Sentences.told(LONG + "goer 0 0 18;goer 0 18 19;");
        due("waits(1, 0, 1)", x.waits(1, 0, 1), 18);
        due("waits(0, 1, 1): never", x.waits(0, 1, 1), NONE);
    }

    @Sentences.Holds("Terms: WAIT .. or never are in one CELL: the least (0, 1)")
    private static void waitsNotAtAllOrOneNotToMeet() {
        due("they never meet", Sentences.goers(0, 0, 3, 0, 3, 0).waits(0, 1, 0), 0);
        due("but for one", Sentences.goers(0, 0, 2, 0, 2, 0).waits(0, 1, 0), 1);
    }

    @Sentences.Holds("Terms: WAIT .. or never are in one CELL: long ones")
    private static void waitsLongNotToMeet() {
        // one comes to 17 by the ladder from 13 behind 15 MINUTES and goes on to 18: who wants to 17 lets him pass
        IronStairs x = Sentences.told("back;ladder 3;ladder 4;ladder 11;ladder 13;goer 0 0 18;goer 0 16 17;");
        due("where(0, 15)", x.where(0, 15), 17);
        due("waits(1, 0, 0)", x.waits(1, 0, 0), 15);
    }

    @Sentences.Holds("Promise 19: WAIT. NONE. (always, never)")
    private static void waitsInVain() {
        IronStairs x = Sentences.goers(0, 0, 3, 0, 2, 2, 0, 0, 2, 0, 4, 7);
        due("always on the way", x.waits(0, 1, 0), NONE);
        due("always now", x.waits(0, 2, 0), NONE);
        due("never: another FLOOR", x.waits(0, 3, 1), NONE);
        Sentences.refusals("NONE", x, 0, 0, 0);
        x = Sentences.goers(0, 0, 0, 0, 5, 5);
        due("one stays at 0", x.waits(0, 1, 1), NONE);
        due("the other stays at 0", x.waits(1, 0, 1), NONE);
    }

    // ---- down, cut, doors

    @Sentences.Holds("Terms: DOWN: .. the most of all who have a WAY (0: none has one)")
    private static void downOfThoseWhoHaveAWay() {
        IronStairs x = Sentences.told("back;ladder 0;goer 0 4 4;goer 0 7 7;goer 0 19 19;goer 0 2 2;");
        due("down(0)", x.down(0), 4);
        due("down(1)", x.down(1), 4);
        x.draws(0);
        due("one is there", x.down(0), 0);
        due("down(1)", x.down(1), 7);
        x = Sentences.goers(0, 4, 4, 0, 19, 19);
        due("none has one", x.down(0), 0);
        due("none has one: who", x.down(1), 3);
        Sentences.refusals("none", x, 0, 0, 0);
    }

    @Sentences.Holds("Terms: DOWN: how many MINUTES until all GOERS are on FLOOR 0: none, one, the most there can be")
    private static void downFromFloorToFloor() {
        due("on FLOOR 0", Sentences.goers(0, 3, 19).down(0), 0);
        due("one above", Sentences.told("back;ladder 3;goer 0 7 7;").down(0), 1);
        due("from 19, to 3 alone", Sentences.told(LONG + "goer 0 19 19;").down(0), 16);
        for (int c = 0; c < 4; c++) {
            String below = "back;ladder " + c + ";goer 0 " + (4 + c) + " 0;";
            due("straight down to " + c, Sentences.told(below).down(0), 1);
        }
        due("by the nearest", Sentences.told("back;ladder 1;ladder 2;goer 0 7 7;goer 0 4 4;").down(0), 2);
    }

    @Sentences.Holds("Terms: CUT: the LADDER .. without which most GOERS have no WAY to FLOOR 0; of like ones the first")
    private static void cutFirstOfLikeOnes() {
        IronStairs x = Sentences.told("back;ladder 0;ladder 4;ladder 8;goer 0 12 12;");
        due("cut(0)", x.cut(0), 0);
        due("cut(1)", x.cut(1), 1);
        x = Sentences.told("back;ladder 0;ladder 1;ladder 8;goer 0 7 7;");
        due("none is cut off by any", x.cut(0), 0);
        due("how many", x.cut(1), 0);
        x = Sentences.told("back;ladder 0;ladder 4;ladder 1;goer 0 8 8;");
        due("the one that does", x.cut(0), 1);
    }

    @Sentences.Holds("Terms: CUT: .. how many (who have no WAY then, those without one anyway, too)")
    private static void cutCountsAllWhoHaveNone() {
        IronStairs x = Sentences.told("back;ladder 0;goer 0 4 4;goer 0 8 8;goer 0 0 0;");
        due("cut(0)", x.cut(0), 0);
        due("cut(1)", x.cut(1), 2);
    }

    @Sentences.Holds("Terms: CUT: .. none: no LADDER is down")
    private static void cutOfNoneThatIsDown() {
        IronStairs x = Sentences.told("back;ladder 0;ladder 4;goer 0 8 8;");
        x.draws(0);
        due("the one that is down", x.cut(0), 1);
        due("how many", x.cut(1), 1);
        x.draws(1);
        due("none is down", x.cut(0), NONE);
        due("none is down", x.cut(1), NONE);
        Sentences.refusals("NONE", x, 0, 0, 0);
    }

    @Sentences.Holds("Terms: DOORS: .. to whose HOME one goes in the first such way (rising)")
    private static void doorsFirstSuchWay() {
        // at 2 and 3, the HOMES are 0 and 1: 2 and 2, or 1 and 3
        IronStairs x = Sentences.goers(0, 0, 2, 0, 1, 3);
        x.minutes(2);
        due("doors(NONE)", x.doors(NONE), 4);
        due("doors(0)", x.doors(0), 0);
        due("doors(1)", x.doors(1), 1);
        // all HOMES are one: each to his own
        x = Sentences.goers(0, 1, 3, 0, 1, 3, 0, 1, 3, 0, 1, 3, 0, 1, 3, 0, 1, 3);
        x.minutes(60);
        due("doors(NONE)", x.doors(NONE), 12);
        for (int i = 0; i < 6; i++) due("doors(" + i + ")", x.doors(i), i);
    }

    @Sentences.Holds("Terms: DOORS: .. as FAR together as is least (0: all at HOME; changed over)")
    private static void doorsLeast() {
        due("all at HOME", Sentences.goers(0, 0, 3, 0, 9, 9).doors(NONE), 0);
        IronStairs x = Sentences.goers(0, 0, 3, 0, 3, 0);
        x.minutes(60);
        due("changed over", x.doors(NONE), 0);
        due("doors(0)", x.doors(0), 1);
        due("doors(1)", x.doors(1), 0);
        x = Sentences.goers(0, 0, 3, 0, 0, 3);
        x.minutes(60);
        due("all the way", x.doors(NONE), 6);
        x = Sentences.goers(0, 0, 0, 0, 3, 0);
        x.minutes(60);
        due("no two to one HOME", x.doors(NONE), 3);
    }

    @Sentences.Holds("Promise 22: -6: none (whatever i is, as told).")
    private static void doorsByNoWay() {
        IronStairs x = Sentences.told("back;ladder 0;goer 0 0 4;goer 0 1 1;minutes 1;draw 0;");
        for (int i = NONE; i < 2; i++) due("doors(" + i + ")", x.doors(i), -6);
        Sentences.refusals("none", x, 0, 0, 0);
        due("doors(2): not as told", x.doors(2), -10);
        Sentences.refusals("not as told", x, 1, 0, 0);
        x.draws(0);
        due("a way", x.doors(NONE), 1);
    }

    // ---- who it was

    @Sentences.Holds("Terms: WHO: GOERS .. whose next step behind so many MINUTES: now, the last step there can be, none behind it")
    private static void whoFromNowToTheLastStep() {
        IronStairs x = Sentences.told(LONG + "goer 0 0 19;window 4 1;window 4 18;");
        x.sound(0, 0, 1);
        due("now", x.who(), 1);
        x.forget(0);
        x.sound(1, 18, 3);
        due("the 19th step, from 18", x.who(), 1);
        for (int m = 19; m <= 30; m++) {
            x.forget(0);
            x.sound(1, m, 3);
            due("behind " + m + ": he stays", x.who(), 0);
        }
    }

    @Sentences.Holds("Terms: WHO: .. is so loud (1 .. 20: no more, no less)")
    private static void whoIsSoLoud() {
        IronStairs x = Sentences.told("back;goer 3 0 3;goer 0 0 3;window 1 0;");
        for (int loud = 1; loud <= 20; loud++) {
            x.forget(0);
            x.sound(0, 0, loud);
            due("who() of " + loud, x.who(), loud == 6 ? 1 : loud == 1 ? 2 : 0);
        }
    }

    @Sentences.Holds("Terms: WHO: .. and HEARD at that WINDOW (1 or more)")
    private static void whoIsHeardThere() {
        IronStairs x = Sentences.told("back;goer 1 0 3;window 0 2;window 0 3;");
        x.sound(0, 0, 3);
        due("3 loud, 2 far", x.who(), 1);
        x.forget(0);
        x.sound(1, 0, 3);
        due("3 loud, 3 far", x.who(), 0);
    }

    @Sentences.Holds("Terms: IS: KINDS (bits) by which all NOTES of one are so (0 loud, 20 loud, MINUTE 99, FLOOR 4)")
    private static void isByTheLeastAndTheGreatestNotes() {
        IronStairs x = Sentences.goers(0, 0, 0);
        int[][] notes = {{0, 0, 0}, {4, 99, 3}, {4, 98, 3}, {4, 99, 4}, {0, 0, 20}, {0, 99, 6}};
        int[] kinds = {4 | 16, 1 | 4, 1, 32, 0, 8};
        for (int n = 0; n < notes.length; n++) {
            x.forget(1);
            x.note(0, notes[n][0], notes[n][1], notes[n][2]);
            due("is(0) of note " + n, x.is(0), kinds[n]);
        }
    }

    @Sentences.Holds("Terms: LOOK: 10 f and m .. by which the most .. are fewest; of like ones the least")
    private static void lookLeastOfLikeOnes() {
        IronStairs x = Sentences.goers(0, 0, 0);
        due("all KINDS: 2 alike at best", x.look(0), 0);
        int[][] notes = {{0, 0, 0}, {0, 0, 3}, {2, 0, 4}, {0, 1, 1}, {2, 1, 4}, {0, 0, 6}};
        int[] look = {1, 1, 1, 0, 0, 0};
        for (int n = 0; n < notes.length; n++) {
            x.forget(1);
            x.note(0, notes[n][0], notes[n][1], notes[n][2]);
            due("look(0) of note " + n, x.look(0), look[n]);
        }
    }

    @Sentences.Holds("Promise 29: LOOK. NONE. (no KIND)")
    private static void lookOfNoKind() {
        IronStairs x = Sentences.goers(0, 0, 0, 0, 0, 0);
        x.note(0, 0, 0, 20);
        due("look(0)", x.look(0), NONE);
        due("look(1), of the other", x.look(1), 0);
        Sentences.refusals("NONE", x, 0, 0, 0);
    }

    @Sentences.Holds("Terms: WHAT: KINDS of WINDOWS (bits) by which all MARKS of one are so (x 0, 20; d 0, 7)")
    private static void kindsByTheLeastAndTheGreatestMarks() {
        IronStairs x = new IronStairs();
        x.window(0, 0);
        int[][] marks = {{0, 0, 1}, {0, 0, 0}, {0, 7, 1}, {20, 7, 1}, {20, 7, 0}, {20, 0, 1}};
        int[] kinds = {8, 63 - 8, 0, 63, 0, 63};
        for (int n = 0; n < marks.length; n++) {
            x.forget(2);
            x.mark(0, marks[n][0], marks[n][1], marks[n][2]);
            due("kinds(0) of mark " + n, x.kinds(0), kinds[n]);
        }
    }

    @Sentences.Holds("Terms: ASK: 10 x and d .. by which .. the greater part .. is least; of like ones the least")
    private static void askLeastOfLikeOnes() {
        IronStairs x = new IronStairs();
        x.window(0, 0);
        due("all KINDS: three and three", x.ask(0), 11);
        int[][][] marks = {{{1, 1, 1}}, {{1, 1, 0}}, {{0, 0, 0}}, {{1, 1, 1}, {0, 0, 0}}, {{1, 0, 0}}, {{0, 0, 1}}, {{1, 0, 1}}};
        int[] ask = {0, 10, 10, 13, 0, 0, 0};
        for (int n = 0; n < marks.length; n++) {
            x.forget(2);
            for (int[] m : marks[n]) x.mark(0, m[0], m[1], m[2]);
            due("ask(0) of marks " + n, x.ask(0), ask[n]);
        }
    }

    @Sentences.Holds("Promise 31: ASK. NONE. (no KIND)")
    private static void askOfNoKind() {
        IronStairs x = new IronStairs();
        x.window(0, 0);
        x.window(0, 0);
        x.mark(0, 20, 0, 0);
        due("ask(0)", x.ask(0), NONE);
        due("ask(1), of the other", x.ask(1), 11);
        Sentences.refusals("NONE", x, 0, 0, 0);
    }

    // ---- shy

    @Sentences.Holds("Terms: SHY: .. less a third (cut) of i: 0 up to 2, 1 from 3 on")
    private static void shyLessAThird() {
        // on two FLOORS: the first has nothing, the second 5; stays up to 2 cost none
        IronStairs x = Sentences.goers(0, 0, 3, 0, 4, 7);
        int[] rest = {0, 1, 2, 10, 11, 12, 20, 21, 22};
        for (int k = 0; k < rest.length; k++) due("shy(0, 1, " + k + ")", x.shy(0, 1, k), rest[k]);
        due("no more", x.shy(0, 1, NONE), rest.length);
    }

    @Sentences.Holds("Promise 32: SHY: how many (k = NONE), the k-th. -5: not so many.")
    private static void shyFirstLastAndBeyond() {
        IronStairs x = Sentences.goers(0, 0, 3, 0, 4, 7);
        due("how many", x.shy(0, 1, NONE), 9);
        due("the first", x.shy(0, 1, 0), 0);
        due("the last", x.shy(0, 1, 8), 22);
        due("one beyond", x.shy(0, 1, 9), -5);
        Sentences.refusals("-5", x, 0, 0, 0);
        x = Sentences.goers(0, 0, 3, 0, 3, 0);
        due("none rests", x.shy(0, 1, NONE), 0);
        due("the first of none", x.shy(0, 1, 0), -5);
        Sentences.refusals("-5", x, 0, 0, 0);
    }

    @Sentences.Holds("Terms: SHY: GOERS .. stay i, j (0 .. 9) MINUTES: none at all")
    private static void shyNoStay() {
        // a goes 2 1, b goes 0 1 2: if a does not stay, b comes to him at 1; if a stays 1, they may go past one another
        IronStairs x = Sentences.goers(0, 2, 1, 0, 0, 2);
        due("shy(0, 1, NONE)", x.shy(0, 1, NONE), 3);
        for (int k = 0; k < 3; k++) due("shy(0, 1, " + k + ")", x.shy(0, 1, k), k);
    }

    @Sentences.Holds("Terms: SHY: GOERS .. stay i, j (0 .. 9) MINUTES: the longest stay")
    private static void shyLongestStay() {
        // b comes to 7, where a is up to minute i, behind 8 and his stay j, and follows him from there: they meet if i is
        // 8 + j or more. For his 5 a stays 8 or 9, which costs him 2 or 3, if b stays 0 or 1, and can't if b stays 2
        IronStairs x = Sentences.told("back;ladder 8;ladder 7;ladder 12;ladder 1;goer 0 7 3;goer 0 18 4;");
        due("shy(0, 1, NONE)", x.shy(0, 1, NONE), 3);
        for (int k = 0; k < 3; k++) due("shy(0, 1, " + k + ")", x.shy(0, 1, k), 10 * k + 2);
    }

    @Sentences.Holds("Terms: SHY: .. if they are in one CELL within 30 MINUTES from now on: the latest there can be")
    private static void shyLatestMeeting() {
        // who stays 9 on the longest WAY comes behind 28: were that too late, b would take it and nothing would rest
        IronStairs x = Sentences.told(LONG + "goer 0 19 19;goer 0 0 19;");
        for (int k = 0; k < 9; k++) due("shy(0, 1, " + k + ")", x.shy(0, 1, k), 10 * (k / 3) + k % 3);
        due("shy(1, 0, NONE)", x.shy(1, 0, NONE), 9);
    }

    // ---- odds, nights

    private static void odds(IronStairs x, int a, int b, int c, long above, long below) {
        due("odds(" + a + ", " + b + ", " + c + ")", x.odds(a, b, c), 1);
        Sentences.fraction("odds(" + a + ", " + b + ", " + c + ")", x, above, below);
    }

    @Sentences.Holds("Terms: ODDS: by c of 10 (0 .. 10): none is drawn up, all are")
    private static void oddsOfNoneAndAll() {
        IronStairs x = Sentences.told("back;ladder 0;ladder 4;ladder 5;");
        odds(x, 0, 8, 0, 1, 1);
        odds(x, 0, 8, 10, 0, 1);
        odds(x, 0, 8, 1, 891, 1000);
        odds(x, 0, 8, 9, 19, 1000);
    }

    @Sentences.Holds("Terms: ODDS: .. the chance that there is a WAY from CELL a to b: sure, none")
    private static void oddsAlongAFloorAndByNoLadder() {
        IronStairs x = Sentences.told("back;ladder 0;ladder 4;draw 1;");
        odds(x, 5, 5, 10, 1, 1);
        odds(x, 4, 7, 10, 1, 1);
        odds(x, 8, 12, 0, 0, 1);
        odds(x, 4, 8, 0, 0, 1);
        odds(x, 3, 7, 0, 1, 1);
    }

    @Sentences.Holds("Terms: ODDS: by c of 10 each LADDER that is down, apart, is drawn up (six)")
    private static void oddsOfSixLadders() {
        IronStairs x = Sentences.told("back;ladder 0;ladder 1;ladder 2;ladder 3;ladder 4;ladder 5;");
        odds(x, 0, 4, 9, 10000 - 6561, 10000);
        odds(x, 0, 8, 9, 3439 * 19, 1000000);
        odds(x, 8, 0, 7, 7599 * 51, 1000000);
    }

    @Sentences.Holds("Terms: THE FRACTION .. lowest terms, below above 0")
    private static void fractionInLowestTerms() {
        IronStairs x = Sentences.told("back;ladder 0;ladder 4;");
        odds(x, 0, 4, 5, 1, 2);
        odds(x, 0, 4, 4, 3, 5);
        odds(x, 0, 4, 10, 0, 1);
        odds(x, 0, 8, 5, 1, 4);
        odds(x, 0, 8, 2, 16, 25);
        odds(x, 12, 16, 3, 0, 1);
    }

    @Sentences.Holds("Terms: NIGHTS: .. GOER X by 65536 (cut), by 6 left over .. turns, ahead of each MINUTE")
    private static void nightsTurnAheadOfTheMinute() {
        // by SEED 0 GOER 0 turns in the first two MINUTES: BACK, where he is, then OUT; by 5 it is GOER 1, then 3, 2, 5
        IronStairs x = Sentences.told("back;goer 1 0 3;window 4 0;");
        due("SEED 0, one MINUTE", x.nights(0, 1), 0);
        due("SEED 0, two MINUTES", x.nights(0, 2), 1);
        due("SEED 5, one MINUTE", x.nights(5, 1), 1);
        due("SEED 5, four MINUTES", x.nights(5, 4), 3);
        due("SEED 999999, eight MINUTES", x.nights(999999, 8), 3);
        due("SEED 999999, sixty MINUTES", x.nights(999999, 60), slowNights("back;goer 1 0 3;window 4 0;", 999999));
    }

    @Sentences.Holds("Terms: NIGHTS: .. (not there: nobody)")
    private static void nightsTurnNobodyWhoIsNotThere() {
        // by SEED 18 they are 5 2 5 2 5 1: of one or two who are there nobody turns ahead of the sixth MINUTE
        due("one", Sentences.told("back;goer 1 0 3;window 4 0;").nights(18, 5), 3);
        due("two", Sentences.told("back;goer 1 0 3;goer 1 3 0;window 4 0;").nights(18, 5), 6);
        due("the sixth turns", Sentences.told("back;goer 1 0 0;goer 1 1 1;goer 1 2 2;goer 1 3 3;goer 1 0 0;goer 1 0 3;window 4 0;")
            .nights(18, 1), 0);
    }

    @Sentences.Holds("Terms: NIGHTS: .. (each step by each WINDOW that HEARS it), all MINUTES together")
    private static void nightsCountEachStepByEachWindow() {
        // by SEED 18 GOER 0 does not turn in nine MINUTES
        String goer = "back;goer 1 0 3;";
        due("one WINDOW", Sentences.told(goer + "window 4 0;").nights(18, 9), 3);
        due("four", Sentences.told(goer + "window 4 0;window 4 1;window 4 2;window 4 3;").nights(18, 9), 12);
        due("one that HEARS none, one that HEARS the last alone", Sentences.told(goer + "window 0 12;window 0 10;").nights(18, 9), 1);
    }

    @Sentences.Holds("Terms: NIGHTS: X becomes X times 1103515245 and 12345, by 2147483648 what is left over")
    private static void nightsByWhatIsLeftOver() {
        String text = "back;ladder 0;ladder 5;goer 1 0 9;goer 3 3 8;goer 5 1 7;window 0 5;window 3 0;window 4 9;";
        for (int seed : new int[] {0, 1, 2, 65535, 65536, 123456, 999998, 999999}) {
            due("SEED " + seed, Sentences.told(text).nights(seed, 60), slowNights(text, seed));
        }
    }

    /** Sixty MINUTES by calls, one after the other. */
    private static long slowNights(String text, long seed) {
        IronStairs x = Sentences.told(text);
        int goers = x.count(0);
        int windows = x.count(2);
        long s = seed;
        long heard = 0;
        for (int m = 0; m < 60; m++) {
            s = (s * 1103515245L + 12345L) % 2147483648L;
            int goer = (int) (s / 65536 % 6);
            if (goer < goers) x.turns(goer);
            for (int w = 0; w < windows; w++) heard += Integer.bitCount(x.about(w, 2));
            x.minutes(1);
        }
        return heard;
    }

    // ---- what there is

    @Sentences.Holds("Promise 39: 4 GOERS who are where they go to (none, all)")
    private static void countOfThoseWhoAreThere() {
        IronStairs x = Sentences.goers(0, 0, 3, 0, 1, 3, 0, 2, 3);
        due("none", x.count(4), 0);
        x.minutes(1);
        due("one", x.count(4), 1);
        x.minutes(60);
        due("all", x.count(4), 3);
        for (int i = 0; i < 3; i++) x.turns(i);
        due("none, BACK", x.count(4), 0);
    }

    @Sentences.Holds("Promise 40: .. THE FRACTION (0 by 1 at first; above, then below)")
    private static void digestEndsWithTheFraction() {
        IronStairs x = Sentences.told("back;ladder 0;");
        long h = x.digest();
        x.odds(0, 4, 3);
        due("7 by 10 for 0 by 1", x.digest(), h + 31 * 7 + 9);
    }
}
