/** THE BACK told by THE TEXT: its ITEMS and TOKENS, each FAULT, and what a BACK that is read leaves as it was. */
public final class BoundsOfTextTest {
    private static final int NO = Sentences.NO;
    private static final String SIX_LADDERS = "back;ladder0;ladder1;ladder2;ladder3;ladder4;ladder5;";
    private static final String SIX_GOERS = "back;goer0 0 0;goer0 0 0;goer0 0 0;goer0 0 0;goer0 0 0;goer0 0 0;";
    private static final String FOUR_WINDOWS = "back;window0 0;window0 0;window0 0;window0 0;";

    public static void main(String[] names) {
        Sentences.run(BoundsOfTextTest.class, names);
    }

    private static void due(String call, long got, long want) {
        Sentences.due(call, got, want);
    }

    private static int read(String text) {
        IronStairs x = new IronStairs();
        Sentences.type(x, text);
        return x.read();
    }

    private static void items(String text, int items) {
        due("read of '" + text + "'", read(text), items);
    }

    private static void fault(String text, int place) {
        due("read of '" + text + "'", read(text), -10 - place);
    }

    /** The text is well up to the mark ^, which stands ahead of its FAULT and is not in it. */
    private static void faultAt(String marked) {
        int place = marked.indexOf('^');
        fault(marked.substring(0, place) + marked.substring(place + 1), place);
    }

    // ---- where it ends

    @Sentences.Holds("Terms: FAULT: .. the TEXT's length, if it ends too early (an empty one, too)")
    private static void emptyText() {
        due("read() of a new object", new IronStairs().read(), -10);
        fault("", 0);
        IronStairs x = Sentences.told("back;");
        x.clear();
        due("read() behind clear()", x.read(), -10);
    }

    @Sentences.Holds("Terms: FAULT: .. the TEXT's length, if it ends too early: blanks alone")
    private static void blanksAlone() {
        fault(" ", 1);
        fault("   ", 3);
        fault(" ".repeat(150), 150);
    }

    @Sentences.Holds("Terms: FAULT: .. the TEXT's length, if it ends too early: ahead of a ;")
    private static void endsAheadOfItsEnd() {
        for (String t : new String[] {"back", "back;ladder 1", "back;goer 0 0 0", "back;window 0 0", "back;minutes 1"}) {
            fault(t, t.length());
        }
        fault("back;goer 0 0 0;turn 0", 22);
        fault("back;ladder 0;draw 0", 20);
    }

    @Sentences.Holds("Terms: FAULT: .. the TEXT's length, if it ends too early: ahead of a number")
    private static void endsAheadOfANumber() {
        for (String t : new String[] {"back;ladder", "back;goer", "back;goer 0", "back;goer 0 0", "back;window", "back;window 0",
            "back;turn", "back;draw", "back;minutes"}) {
            fault(t, t.length());
        }
    }

    @Sentences.Holds("Terms: FAULT: .. the TEXT's length: blanks behind the last TOKEN count")
    private static void endsBehindBlanks() {
        fault("back  ", 6);
        fault("back;ladder   ", 14);
        fault("back;goer 0 ", 12);
        fault("back;goer 0 0 0 ", 16);
    }

    @Sentences.Holds("Terms: THE BACK is told by a TEXT (150 bytes at most): a full one")
    private static void textOf150Bytes() {
        String minutes = "back;" + "minutes 9;".repeat(13);
        IronStairs x = Sentences.told(minutes + "window 00 10  ;");
        due("bytes", x.count(9), 150);
        due("the MINUTE", x.count(3), 117);
        due("CELL", x.about(0, 1), 10);
        fault(minutes + "window 00 10   ", 150);
        fault(minutes + "window 00 10  x", 149);
        items(minutes + "minutes 9;     ", 15);
        String full = SIX_LADDERS + SIX_GOERS.substring(5);
        items(full + " ".repeat(150 - full.length()), 13);
        items(" ".repeat(145) + "back;", 1);
        fault(" ".repeat(146) + "back", 150);
    }

    // ---- items

    @Sentences.Holds("Terms: back (once, first of all): alone it is a BACK")
    private static void backAlone() {
        items("back;", 1);
        due("nobody is there", Sentences.told("back;").count(0), 0);
    }

    @Sentences.Holds("Terms: FAULT: .. anything ahead of it (back)")
    private static void anythingAheadOfBack() {
        faultAt("^ladder 0;back;");
        faultAt("^goer 0 0 0;back;");
        faultAt("  ^minutes 1;back;");
        faultAt("^;back;");
        faultAt("^0 back;");
        faultAt(" ^~back;");
    }

    @Sentences.Holds("Terms: FAULT: .. back again")
    private static void backAgain() {
        faultAt("back;^back;");
        faultAt("back; ladder 1; ^back;");
        faultAt("back ^back;");
    }

    @Sentences.Holds("Terms: ITEMS, each ended by ;")
    private static void itemsEndBySemicolon() {
        faultAt("back ^ladder 1;");
        faultAt("back;ladder 1 ^ladder 2;");
        faultAt("back;goer 0 0 0 ^0;");
        faultAt("back;^;");
        faultAt("back;ladder 1;^;");
        faultAt("back;ladder ^;");
        faultAt("back;goer 0 0 ^;");
        faultAt("back;window 0^;");
    }

    @Sentences.Holds("Promise 8: THE BACK is read: how many ITEMS.")
    private static void howManyItems() {
        items("back;ladder 1;", 2);
        items(SIX_LADDERS, 7);
        items(SIX_GOERS, 7);
        items(FOUR_WINDOWS, 5);
        items("back;" + "minutes1;".repeat(16), 17);
    }

    @Sentences.Holds("Terms: FAULT: .. a word that is none")
    private static void wordThatIsNone() {
        faultAt("^bac;");
        faultAt("^backs;");
        faultAt("^bakc;");
        faultAt("^pack;");
        faultAt("^bacs;");
        faultAt("^b;");
        for (String word : new String[] {"ladder", "goer", "window", "turn", "draw", "minutes"}) {
            faultAt("back;^" + word + "s 0 0 0;");
            faultAt("back;^" + word.substring(0, word.length() - 1) + " 0 0 0;");
            faultAt("back;^" + word.substring(1) + " 0 0 0;");
            faultAt("back;^x" + word + " 0 0 0;");
            faultAt("back;^x" + word.substring(1) + " 0 0 0;");
            faultAt("back;^" + word.substring(0, word.length() - 1) + "x 0 0 0;");
            faultAt("back;^" + word.charAt(0) + "x" + word.substring(2) + " 0 0 0;");
        }
        faultAt("back;^minute 1;");
    }

    @Sentences.Holds("Terms: FAULT: .. a word that is none: one that the TEXT's end cuts short")
    private static void wordCutShort() {
        faultAt("^bac");
        faultAt("back;^ladde");
        faultAt("back;^minute");
        faultAt("back;^g");
    }

    @Sentences.Holds("Terms: FAULT: .. a 7th ladder .. at its word")
    private static void seventhLadder() {
        items(SIX_LADDERS, 7);
        faultAt(SIX_LADDERS + "^ladder6;");
        faultAt(SIX_LADDERS + "^ladder");
        faultAt(SIX_LADDERS + " ^ladder 16;");
        faultAt(SIX_LADDERS + "^ladder0;");
    }

    @Sentences.Holds("Terms: FAULT: .. a 7th goer .. at its word")
    private static void seventhGoer() {
        items(SIX_GOERS, 7);
        faultAt(SIX_GOERS + "^goer0 0 0;");
        faultAt(SIX_GOERS + "^goer");
        faultAt(SIX_GOERS + " ^goer 6 20;");
    }

    @Sentences.Holds("Terms: FAULT: .. a 5th window at its word")
    private static void fifthWindow() {
        items(FOUR_WINDOWS, 5);
        faultAt(FOUR_WINDOWS + "^window0 0;");
        faultAt(FOUR_WINDOWS + "^window");
        faultAt(FOUR_WINDOWS + " ^window 6;");
    }

    @Sentences.Holds("Terms: FAULT: .. a LADDER of a CELL that has one at its number")
    private static void ladderOfCellThatHasOne() {
        faultAt("back;ladder 7;ladder ^7;");
        faultAt("back;ladder 7;ladder ^07;");
        faultAt("back;ladder 7;ladder 0;ladder ^7");
        faultAt("back;ladder 7;draw 0;ladder^7;");
        items("back;ladder 7;ladder 11;", 3);
    }

    @Sentences.Holds("Terms: ladder CELL (0 .. 15); FAULT: a number not as told")
    private static void ladderCells() {
        items("back;ladder 0;", 2);
        items("back;ladder 15;", 2);
        faultAt("back;ladder ^16;");
        faultAt("back;ladder ^99;");
        faultAt("back;ladder ^-1;");
        due("CELL", Sentences.told("back;ladder 15;").rungs(0, 0), 15);
    }

    @Sentences.Holds("Terms: goer KIND (0 .. 5) ..; FAULT: a number not as told")
    private static void goerKinds() {
        items("back;goer 0 1 2;", 2);
        items("back;goer 5 1 2;", 2);
        faultAt("back;goer ^6 1 2;");
        due("KIND", Sentences.told("back;goer 5 1 2;").of(0, 0), 5);
    }

    @Sentences.Holds("Terms: goer .. HOME (0 .. 19) ..; FAULT: a number not as told")
    private static void goerHomes() {
        items("back;goer 1 0 2;", 2);
        items("back;goer 1 19 2;", 2);
        faultAt("back;goer 1 ^20 2;");
        due("HOME", Sentences.told("back;goer 1 19 2;").of(0, 1), 19);
        due("where", Sentences.told("back;goer 1 19 2;").of(0, 3), 19);
    }

    @Sentences.Holds("Terms: goer .. WANT (0 .. 19); FAULT: a number not as told")
    private static void goerWants() {
        items("back;goer 1 2 0;", 2);
        items("back;goer 1 2 19;", 2);
        faultAt("back;goer 1 2 ^20;");
        due("WANT", Sentences.told("back;goer 1 2 19;").of(0, 2), 19);
    }

    @Sentences.Holds("Terms: window KIND (0 .. 5) ..; FAULT: a number not as told")
    private static void windowKinds() {
        items("back;window 0 3;", 2);
        items("back;window 5 3;", 2);
        faultAt("back;window ^6 3;");
        due("KIND", Sentences.told("back;window 5 3;").about(0, 0), 5);
    }

    @Sentences.Holds("Terms: window .. CELL (0 .. 19); FAULT: a number not as told")
    private static void windowCells() {
        items("back;window 3 0;", 2);
        items("back;window 3 19;", 2);
        faultAt("back;window 3 ^20;");
        due("CELL", Sentences.told("back;window 3 19;").about(0, 1), 19);
    }

    @Sentences.Holds("Terms: FAULT: .. a number not as told, also a GOER .. that is not there yet")
    private static void turnOfGoerNotThereYet() {
        faultAt("back;turn ^0;");
        faultAt("back;turn ^0;goer 0 0 0;");
        faultAt("back;goer 0 0 0;turn ^1;");
        items("back;goer 0 0 0;turn 0;", 3);
        items(SIX_GOERS + "turn5;", 8);
        faultAt(SIX_GOERS + "turn^6;");
        faultAt("back;ladder 0;turn ^0;");
    }

    @Sentences.Holds("Terms: FAULT: .. a number not as told, also .. a LADDER that is not there yet")
    private static void drawOfLadderNotThereYet() {
        faultAt("back;draw ^0;");
        faultAt("back;draw ^0;ladder 0;");
        faultAt("back;ladder 0;draw ^1;");
        items("back;ladder 0;draw 0;", 3);
        items(SIX_LADDERS + "draw5;", 8);
        faultAt(SIX_LADDERS + "draw^6;");
        faultAt("back;goer 0 0 0;draw ^0;");
    }

    @Sentences.Holds("Terms: minutes n (1 .. 99 ..); FAULT: a number not as told")
    private static void minutes1To99() {
        items("back;minutes 1;", 2);
        items("back;minutes 99;", 2);
        faultAt("back;minutes ^0;");
        faultAt("back;minutes ^00;");
        faultAt("back;minutes ^100;");
        due("the MINUTE", Sentences.told("back;minutes 1;").count(3), 1);
        due("the MINUTE", Sentences.told("back;minutes 99;").count(3), 99);
        due("the MINUTE", Sentences.told("back;minutes99;minutes99;minutes 99;").count(3), 297);
    }

    @Sentences.Holds("Terms: minutes n (so many go by, where it stands)")
    private static void minutesWhereItStands() {
        IronStairs x = Sentences.told("back;goer 0 0 3;minutes 1;goer 0 0 3;minutes 1;ladder 2;goer 0 0 3;");
        for (int i = 0; i < 3; i++) due("where " + i, x.of(i, 3), 2 - i);
        due("the MINUTE", x.count(3), 2);
    }

    @Sentences.Holds("Terms: turn i (a GOER goes BACK, or OUT again)")
    private static void turnsOnceAndTwice() {
        due("once", Sentences.told("back;goer 0 0 3;turn 0;").of(0, 4), 1);
        due("twice", Sentences.told("back;goer 0 0 3;turn 0;turn 0;").of(0, 4), 0);
    }

    @Sentences.Holds("Terms: draw k (a LADDER: up, or down again)")
    private static void drawsOnceAndTwice() {
        due("once", Sentences.told("back;ladder 0;draw 0;").rungs(0, 1), 0);
        due("twice", Sentences.told("back;ladder 0;draw 0;draw 0;").rungs(0, 1), 1);
    }

    // ---- tokens

    @Sentences.Holds("Terms: TOKENS: words of letters a .. z (the bytes beside begin none)")
    private static void lettersFromAToZ() {
        faultAt("back^`;");
        faultAt("back^{;");
        faultAt("^backa;");
        faultAt("^backz;");
        faultAt("^abback;");
        faultAt("^zback;");
        faultAt("^Back;");
        faultAt("^bacK;");
        faultAt("back^K;");
    }

    @Sentences.Holds("Terms: TOKENS: .. figures (the bytes beside 0 and 9 begin none)")
    private static void figuresFrom0To9() {
        items("back;ladder 0;", 2);
        items("back;ladder 9;", 2);
        faultAt("back;ladder ^/;");
        faultAt("back;ladder ^:;");
        faultAt("back;ladder 1^/;");
        faultAt("back;ladder 1^:;");
    }

    @Sentences.Holds("Terms: TOKENS: .. figures (1 or 2 are one number)")
    private static void oneOrTwoFigures() {
        due("5", Sentences.told("back;ladder 5;").rungs(0, 0), 5);
        due("05", Sentences.told("back;ladder 05;").rungs(0, 0), 5);
        due("00", Sentences.told("back;ladder 00;").rungs(0, 0), 0);
        due("10", Sentences.told("back;ladder 10;").rungs(0, 0), 10);
        IronStairs x = Sentences.told("back;goer 05 09 19;");
        due("KIND", x.of(0, 0), 5);
        due("HOME", x.of(0, 1), 9);
        due("WANT", x.of(0, 2), 19);
        due("minutes 09", Sentences.told("back;minutes 09;").count(3), 9);
    }

    @Sentences.Holds("Terms: FAULT: .. a run of three figures or more (at its first one)")
    private static void threeFigures() {
        faultAt("back;ladder ^000;");
        faultAt("back;ladder ^015;");
        faultAt("back;ladder ^0000;");
        faultAt("back;goer 0 0 ^001;");
        faultAt("back;minutes ^001;");
        faultAt("back;ladder^123456789012345678901234567890;");
        faultAt("back;ladder ^001");
    }

    @Sentences.Holds("Terms: blanks (32), any number, ahead of, between and behind TOKENS")
    private static void blanksAnyNumber() {
        items(" back;", 1);
        items("     back;", 1);
        items("back     ;", 1);
        items("back;     ", 1);
        items("  back  ;  goer  0  1   2  ;  ", 2);
        items("back;" + " ".repeat(100) + "ladder" + " ".repeat(30) + "1;", 2);
    }

    @Sentences.Holds("Terms: blanks .. (needed only between two words, two numbers): not beside others")
    private static void blanksNotNeeded() {
        items("back;ladder1;goer1 2 3;window1 2;turn0;draw0;minutes1;", 7);
    }

    @Sentences.Holds("Terms: blanks .. (needed only between two words, two numbers): there they are")
    private static void blanksNeeded() {
        faultAt("back;window 05^;");
        faultAt("back;goer 0 12^;");
        faultAt("back;goer ^012;");
        faultAt("^backladder 0;");
        faultAt("back;minutes 1^x;");
    }

    @Sentences.Holds("Terms: blanks (32): no other byte is one")
    private static void otherBytesAreNoBlanks() {
        for (int b : new int[] {0, 9, 10, 13, 31, 33, 127}) {
            fault("back;" + (char) b + "ladder 0;", 5);
            fault((char) b + "back;", 0);
        }
    }

    @Sentences.Holds("Terms: FAULT: .. a byte that begins none, too")
    private static void byteThatBeginsNone() {
        faultAt("back;^%;");
        faultAt("back^.;");
        faultAt("back;ladder ^+1;");
        faultAt("back;ladder 1^,;");
        faultAt("back;ladder 1;^?");
        faultAt("back;goer 0 ^-1 0;");
        faultAt("back;^Ladder 0;");
        faultAt("back;^lad_der 0;");
    }

    @Sentences.Holds("Terms: FAULT: a TOKEN that can not stand there: a word for a number, a number for a word")
    private static void otherToken() {
        faultAt("back;ladder ^ladder;");
        faultAt("back;minutes ^a;");
        faultAt("back;minutes ^;;");
        faultAt("back;goer 0 ^back;");
        faultAt("back;^0;");
        faultAt("back;^12 ladder 0;");
        faultAt("back;ladder 0;^7;");
        faultAt("back ^1;");
    }

    @Sentences.Holds("Terms: FAULT: the place of the first byte of the first TOKEN that can not stand there")
    private static void firstOfFaults() {
        faultAt("^oops;back;");
        faultAt("back;goer ^6 20 20;");
        faultAt("back;goer 5 ^20 20;");
        faultAt("back;ladder ^16;oops;");
        faultAt("back;^oops 16;ladder 16;");
        faultAt("   back;   ladder 1;   ladder    ^16 ;");
    }

    // ---- what it takes the place of

    /** The TEXT stands to be read over a BACK with all there may be of everything, an image of which is kept. */
    private static IronStairs readOver(String text) {
        IronStairs x = Sentences.full();
        for (int n = 0; n < 6; n++) x.note(n, 0, 0, 0);
        for (int n = 0; n < 6; n++) x.mark(n % 4, 0, 0, 0);
        for (int n = 0; n < 5; n++) x.sound(n % 4, 0, 1);
        x.odds(0, 4, 3);
        x.ladder(16);
        x.undo();
        x.ladder(1);
        x.ladder(1);
        for (int n = 0; n < 8; n++) x.minutes(1);
        x.image(1);
        x.minutes(1);
        x.nights(5, 1);
        Sentences.type(x, text);
        return x;
    }

    @Sentences.Holds("Terms: A BACK that is read takes the place of all")
    private static void readTakesThePlaceOfAll() {
        IronStairs x = readOver("back;ladder 9;goer 1 2 3;window 4 5;");
        due("read()", x.read(), 4);
        Sentences.counts("read", x, 1, 1, 1, 0, 0, 0, 0, 0, 0, 36);
        due("LADDER", x.rungs(0, 0), 9);
        due("GOER", x.of(0, 1), 2);
        due("WINDOW", x.about(0, 1), 5);
        due("another LADDER", x.ladder(0), 1);
        due("read() again", x.read(), 4);
        Sentences.counts("read again", x, 1, 1, 1, 0, 0, 0, 0, 0, 0, 36);
    }

    @Sentences.Holds("Terms: A BACK that is read takes the place of all but IMAGES")
    private static void readKeepsImages() {
        IronStairs x = readOver("back;");
        due("read()", x.read(), 1);
        due("from(1)", x.from(1), 1);
        Sentences.counts("from(1)", x, 6, 6, 4, 8, 6, 5, 6, 6, 8, 5);
        due("from(0): none was kept", x.from(0), NO);
    }

    @Sentences.Holds("Terms: A BACK that is read takes the place of all but .. THE TEXT")
    private static void readKeepsTheText() {
        IronStairs x = readOver("back;ladder 9;");
        due("read()", x.read(), 2);
        due("bytes", x.count(9), 14);
        due("read() again", x.read(), 2);
        due("clear()", x.clear(), 14);
    }

    @Sentences.Holds("Terms: A BACK that is read takes the place of all but .. THE FRACTION")
    private static void readKeepsTheFraction() {
        IronStairs x = readOver("back;");
        due("read()", x.read(), 1);
        Sentences.fraction("read", x, 91, 100);
    }

    @Sentences.Holds("Terms: A BACK that is read takes the place of all but .. STATUS")
    private static void readKeepsStatus() {
        IronStairs x = readOver("back;");
        due("read()", x.read(), 1);
        Sentences.refusals("read", x, 1, 1, 2);
    }

    @Sentences.Holds("Terms: A BACK that is read .. (SOUNDS told .. none)")
    private static void readLeavesNoSounds() {
        IronStairs x = readOver("back;goer 0 0 3;");
        due("read()", x.read(), 2);
        due("SOUNDS", x.count(5), 0);
        due("who() by none", x.who(), 1);
    }

    @Sentences.Holds("Terms: A BACK that is read .. (.. NOTES .. none)")
    private static void readLeavesNoNotes() {
        IronStairs x = readOver("back;goer 0 0 3;");
        due("read()", x.read(), 2);
        due("NOTES", x.count(6), 0);
        due("is(0) by none", x.is(0), 63);
    }

    @Sentences.Holds("Terms: A BACK that is read .. (.. MARKS none)")
    private static void readLeavesNoMarks() {
        IronStairs x = readOver("back;window 0 0;");
        due("read()", x.read(), 2);
        due("MARKS", x.count(7), 0);
        due("kinds(0) by none", x.kinds(0), 63);
    }

    @Sentences.Holds("Terms: A BACK that is read .. (nothing to undo)")
    private static void readLeavesNothingToUndo() {
        IronStairs x = readOver("back;goer 0 0 3;ladder 0;minutes 2;turn 0;draw 0;");
        due("read()", x.read(), 6);
        due("count(8)", x.count(8), 0);
        due("undo()", x.undo(), NO);
    }

    @Sentences.Holds("Promise 8: -10 less the FAULT: all stays.")
    private static void faultLeavesAllAsItWas() {
        IronStairs x = readOver("back;ladder 9;goer 1 2 3;minutes 5;turn 0;oops;");
        long h = x.digest();
        due("read()", x.read(), -10 - 42);
        due("all stays", x.digest(), h);
        due("bytes", x.count(9), 47);
        due("read() again", x.read(), -10 - 42);
        for (int m = 8; m > 0; m--) due("undo()", x.undo(), m);
        due("undo()", x.undo(), NO);
        due("the image stays", x.from(1), 1);
    }

    @Sentences.Holds("Terms: STATUS: how many calls were refused as BAD, NO, FULL (a FAULT is none of these)")
    private static void faultIsNoRefusal() {
        IronStairs x = new IronStairs();
        due("read()", x.read(), -10);
        Sentences.type(x, SIX_LADDERS + "ladder6;");
        due("read()", x.read(), -10 - 53);
        Sentences.refusals("a FAULT", x, 0, 0, 0);
    }
}
