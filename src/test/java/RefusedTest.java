import java.util.ArrayList;
import java.util.List;

/**
 * A call that the document refuses answers as told and does nothing, and so does a question. Two objects with the same
 * past are held against one another: one has had the call, the other has not, and all that follows must be alike.
 */
public final class RefusedTest {
    private static final Check CHECK = new Check("RefusedTest");
    private static final int NONE = NettleGreen.NONE;
    private static final int[] NO_SUCH = {Integer.MIN_VALUE, -1000000, -33, -32, -2, -1, 1000000, Integer.MAX_VALUE};
    private static final String PEOPLE = "person a firm 30 lumps 9;person b firm 3 learns 2;person c firm 8 lumps 4;";
    private static final String TEXT = PEOPLE + "meet a b on 0;meet b c on 1;meet a c on 2;meet b a on 3;"
        + "brother s cools 2 round a c;brother t cools 3 round c b a;bed 50;flares 40;draw 17;";

    private interface Call {
        int on(NettleGreen green);
    }

    public static void main(String[] args) {
        tape();
        readings();
        acts();
        nothingToUndo();
        lookingAhead();
        smallQuestions();
        whatIsSeen();
        fullOfSeen();
        endOfTime();
        boxes();
        lastDay();
        withoutPeople();
        questionsDoNothing();
        CHECK.end();
    }

    /** Kept acts on both sides, a forbidden meeting, two full boxes, things seen, numbers lying there, a tape begun. */
    private static NettleGreen busy() {
        NettleGreen green = CHECK.told(TEXT);
        green.image(0);
        green.day();
        green.image(2);
        green.forbid(1);
        green.day();
        green.lesson(1);
        green.day();
        green.call(0, 0);
        green.undo();
        green.undo();
        green.seen(1, 2, 4, true);
        green.later(3);
        green.seen(2, 1, 1, true);
        green.untell(0);
        green.later(2);
        Check.put(green, "person z firm 4;bed 3;");
        green.evenings();
        return green;
    }

    private static String look(NettleGreen green) {
        List<Integer> all = new ArrayList<>();
        for (int i = -1; i < 16; i++) {
            all.add(green.about(i));
            all.add(green.lies(i));
            all.add(green.fault(i));
            for (int what = 0; what < 4; what++) {
                all.add(green.person(i, what));
                all.add(green.meeting(i, what));
                all.add(green.brother(i, what));
                all.add(green.round(what, i));
            }
            all.add(green.touch(i, 0));
            all.add(green.fits(i));
        }
        all.add(green.abed());
        all.add(green.will(0, 20, 1));
        return all.toString();
    }

    /** All that an object holds, brought to light: what follows changes it, so it stands at the end. */
    private static List<String> empty(NettleGreen green) {
        List<String> all = new ArrayList<>();
        all.add(look(green));
        for (int i = 0; i < 42; i++) {
            all.add(green.undo() + look(green));
        }
        for (int i = 0; i < 42; i++) {
            all.add(green.redo() + look(green));
        }
        for (int box = 0; box < 3; box++) {
            all.add(green.back(box) + look(green));
        }
        all.add(green.seen(0, 0, 0, true) + " " + green.untell(0) + green.untell(1) + look(green));
        all.add(green.hamlet() + look(green));
        return all;
    }

    private interface Past {
        NettleGreen made();
    }

    private static void refused(String what, Past past, Call call, int want) {
        NettleGreen with = past.made();
        NettleGreen without = past.made();
        CHECK.due(what, call.on(with), want);
        CHECK.due(what + ", doing nothing", empty(with).equals(empty(without)), true);
    }

    private static void refused(String what, Call call) {
        refused(what, RefusedTest::busy, call, NONE);
    }

    private static int bit(boolean is) {
        return is ? 1 : 0;
    }

    private static NettleGreen fedTo(int bytes) {
        NettleGreen green = busy();
        green.end(0);
        for (int i = 0; i < 80; i++) {
            green.feed(0x20202020, 0x20202020, 0x20202020, 0x20202020, 0x20202020);
        }
        green.end(bytes);
        return green;
    }

    private static void tape() {
        for (int bytes : new int[] {1581, 1599, 1600}) {
            refused("2: feed behind " + bytes, () -> fedTo(bytes), g -> g.feed(1, 2, 3, 4, 5), NONE);
        }
        for (int n : new int[] {23, 24, 1600, 1601}) {
            refused("3: end " + n + " of 22", g -> g.end(n));
        }
        for (int n : NO_SUCH) {
            refused("3: end " + n, g -> g.end(n));
        }
        refused("3: end 1601 of 1600", () -> fedTo(1600), g -> g.end(1601), NONE);
        refused("3: end 1 of 0", () -> fedTo(0), g -> g.end(1), NONE);
    }

    private static void readings() {
        for (int n : NO_SUCH) {
            refused("5: fault " + n, g -> g.fault(n));
            refused("6: person " + n, g -> g.person(n, 0));
            refused("6: what " + n, g -> g.person(0, n));
            refused("7: meeting " + n, g -> g.meeting(n, 0));
            refused("7: what " + n, g -> g.meeting(0, n));
            refused("8: brother " + n, g -> g.brother(n, 0));
            refused("8: what " + n, g -> g.brother(0, n));
            refused("9: brother " + n, g -> g.round(n, 0));
            refused("9: place " + n, g -> g.round(0, n));
            refused("10: meeting " + n, g -> g.touch(n, 0));
            refused("10: what " + n, g -> g.touch(0, n));
            refused("41: lies " + n, RefusedTest::busy, g -> g.lies(n), -2);
            refused("50: about " + n, g -> g.about(n));
        }
        refused("5: fault 2", g -> g.fault(2));
        refused("6: person 3 of 3", g -> g.person(3, 0));
        refused("6: what 4", g -> g.person(2, 4));
        refused("7: meeting 4 of 4", g -> g.meeting(4, 0));
        refused("7: what 4", g -> g.meeting(3, 4));
        refused("8: brother 2 of 2", g -> g.brother(2, 0));
        refused("8: what 2", g -> g.brother(1, 2));
        refused("9: brother 2 of 2", g -> g.round(2, 0));
        refused("9: place 2 of 2", g -> g.round(0, 2));
        refused("9: place 3 of 3", g -> g.round(1, 3));
        refused("10: meeting 4 of 4", g -> g.touch(4, 0));
        refused("10: what 2", g -> g.touch(3, 2));
        refused("41: lies 3 of 3", RefusedTest::busy, g -> g.lies(3), -2);
        refused("50: about 15", g -> g.about(15));
    }

    private static void acts() {
        for (int n : NO_SUCH) {
            refused("13: lesson " + n, g -> g.lesson(n));
            refused("14: forbid " + n, g -> g.forbid(n));
            refused("15: allow " + n, g -> g.allow(n));
            refused("16: brother " + n, g -> g.call(n, 0));
            refused("16: person " + n, g -> g.call(0, n));
        }
        refused("13: he is 30", g -> g.lesson(0));
        refused("13: person 3 of 3", g -> g.lesson(3));
        refused("14: it is forbidden", g -> g.forbid(1));
        refused("14: meeting 4 of 4", g -> g.forbid(4));
        refused("15: it is not forbidden", g -> g.allow(0));
        refused("15: meeting 4 of 4", g -> g.allow(4));
        refused("16: brother 2 of 2", g -> g.call(2, 0));
        refused("16: person 3 of 3", g -> g.call(0, 3));
        refused("16: he has no lumps", RefusedTest::cooled, g -> g.call(0, 2), NONE);
        // What is behind the told ones by 32 or 64 must not come round to one of them as a bit.
        for (int n : new int[] {32, 33, 64, 65}) {
            refused("14: forbid " + n, g -> g.forbid(n));
            refused("15: allow " + n, g -> g.allow(n));
            refused("48: image " + n, g -> g.image(n));
            refused("49: back " + n, g -> g.back(n));
        }
    }

    private static NettleGreen cooled() {
        NettleGreen green = CHECK.told(TEXT);
        green.call(1, 2);
        green.call(1, 2);
        green.day();
        green.undo();
        return green;
    }

    private static NettleGreen undone(int acts) {
        NettleGreen green = CHECK.told(TEXT);
        for (int i = 0; i < acts; i++) {
            green.day();
        }
        for (int i = 0; i < 40; i++) {
            green.undo();
        }
        return green;
    }

    private static void nothingToUndo() {
        refused("17: nothing was done", () -> CHECK.told(TEXT), g -> bit(g.undo()), 0);
        refused("18: nothing was done", () -> CHECK.told(TEXT), g -> bit(g.redo()), 0);
        refused("17: all was undone", () -> undone(3), g -> bit(g.undo()), 0);
        refused("17: forty were undone, the oldest is gone", () -> undone(41), g -> bit(g.undo()), 0);
        refused("18: nothing was undone", RefusedTest::threeDays, g -> bit(g.redo()), 0);
        refused("17: behind an image", RefusedTest::broughtBack, g -> bit(g.undo()), 0);
        refused("18: behind an image", RefusedTest::broughtBack, g -> bit(g.redo()), 0);
    }

    private static NettleGreen threeDays() {
        NettleGreen green = undone(3);
        green.redo();
        green.redo();
        green.redo();
        return green;
    }

    private static NettleGreen broughtBack() {
        NettleGreen green = busy();
        green.back(2);
        return green;
    }

    private static void lookingAhead() {
        for (int n : NO_SUCH) {
            refused("19: person " + n, g -> g.will(n, 1, 0));
            refused("19: days " + n, g -> g.will(0, n, 0));
            refused("19: what " + n, g -> g.will(0, 1, n));
            refused("20: person " + n, g -> g.firm(n, 1));
            refused("20: days " + n, g -> g.firm(0, n));
            refused("21: days " + n, g -> g.hurt(n));
            refused("22: person " + n, g -> g.felled(n));
            refused("23: days " + n, g -> g.peace(n, 0));
            refused("23: what " + n, g -> g.peace(1, n));
            refused("25: person " + n, g -> g.grip(n, 1));
            refused("25: days " + n, g -> g.grip(0, n));
            refused("26: days " + n, g -> g.pupil(n, 0));
            refused("26: what " + n, g -> g.pupil(1, n));
        }
        refused("19: person 3 of 3", g -> g.will(3, 1, 0));
        refused("19: 61 days", g -> g.will(0, 61, 1));
        refused("19: what 2", g -> g.will(0, 1, 2));
        refused("20: person 3 of 3", g -> g.firm(3, 1));
        refused("20: 61 days", g -> g.firm(0, 61));
        refused("21: 61 days", g -> g.hurt(61));
        refused("22: person 3 of 3", g -> g.felled(3));
        refused("23: 15 days", g -> g.peace(15, 0));
        refused("23: what 2", g -> g.peace(1, 2));
        refused("25: person 3 of 3", g -> g.grip(3, 1));
        refused("25: 31 days", g -> g.grip(0, 31));
        refused("26: 31 days", g -> g.pupil(31, 0));
        refused("26: what 2", g -> g.pupil(1, 2));
    }

    private static void smallQuestions() {
        for (int n : NO_SUCH) {
            refused("28: person " + n, g -> g.rumour(n, 0));
            refused("28: other " + n, g -> g.rumour(0, n));
            refused("28: nobody is no one", g -> g.rumour(n, n));
            refused("31: what " + n, g -> g.scourge(n));
            refused("32: brother " + n, g -> g.relief(n, 0));
            refused("32: what " + n, g -> g.relief(0, n));
            refused("36: person " + n, g -> g.friends(n));
            refused("38: firm " + n, g -> g.law(n));
            refused("39: meeting " + n, g -> g.next(n));
            refused("40: n " + n, g -> g.odds(n, 0));
            refused("40: part " + n, g -> g.odds(1, n));
        }
        refused("28: person 3 of 3", g -> g.rumour(3, 0));
        refused("28: other 3 of 3", g -> g.rumour(0, 3));
        refused("28: both 3 of 3", g -> g.rumour(3, 3));
        refused("31: what 2", g -> g.scourge(2));
        refused("32: brother 2 of 2", g -> g.relief(2, 0));
        refused("32: what 2", g -> g.relief(1, 2));
        refused("36: person 3 of 3", g -> g.friends(3));
        refused("38: firm 31", g -> g.law(31));
        refused("39: meeting 4 of 4", g -> g.next(4));
        refused("40: 5", g -> g.odds(5, 0));
        refused("40: part 2", g -> g.odds(4, 2));
    }

    private static void whatIsSeen() {
        for (int n : NO_SUCH) {
            refused("42: days " + n, g -> g.seen(n, 0, 0, true));
            refused("42: person " + n, g -> g.seen(0, n, 0, true));
            refused("42: lumps " + n, g -> g.seen(0, 0, n, true));
            refused("43: untell " + n, RefusedTest::busy, g -> bit(g.untell(n)), 0);
            refused("44: later " + n, g -> g.later(n));
            refused("46: what " + n, g -> g.sure(n, 0));
            refused("47: days " + n, g -> g.ask(n, 0, 0));
            refused("47: what " + n, g -> g.ask(0, n, 0));
        }
        refused("42: 15 days", g -> g.seen(15, 0, 0, false));
        refused("42: person 3 of 3", g -> g.seen(0, 3, 0, false));
        refused("42: 100 lumps", g -> g.seen(0, 0, 100, false));
        refused("43: untold already", RefusedTest::busy, g -> bit(g.untell(0)), 0);
        refused("43: 2 of 2", RefusedTest::busy, g -> bit(g.untell(2)), 0);
        refused("44: 1001", g -> g.later(1001));
        refused("46: what 2", g -> g.sure(2, 0));
        refused("47: 15 days", g -> g.ask(15, 0, 0));
        refused("47: what 2", g -> g.ask(0, 2, 0));
    }

    private static NettleGreen seenThirty() {
        NettleGreen green = busy();
        for (int i = 2; i < 30; i++) {
            CHECK.due("42: one more is seen", green.seen(i % 15, i % 3, i % 2, true), i);
        }
        green.untell(29);
        return green;
    }

    private static void fullOfSeen() {
        refused("42: there are 30", RefusedTest::seenThirty, g -> g.seen(0, 0, 0, true), NONE);
        refused("43: 30 of 30", RefusedTest::seenThirty, g -> bit(g.untell(30)), 0);
        refused("43: the last one is untold", RefusedTest::seenThirty, g -> bit(g.untell(29)), 0);
    }

    private static NettleGreen lateBy(int time) {
        NettleGreen green = busy();
        while (green.about(9) < time) {
            green.later(Math.min(1000, time - green.about(9)));
        }
        return green;
    }

    private static void endOfTime() {
        refused("44: 1 behind 100,000", () -> lateBy(100000), g -> g.later(1), NONE);
        refused("44: 1000 behind 100,000", () -> lateBy(100000), g -> g.later(1000), NONE);
        refused("44: 2 behind 99,999", () -> lateBy(99999), g -> g.later(2), NONE);
        refused("44: 1000 behind 99,001", () -> lateBy(99001), g -> g.later(1000), NONE);
    }

    private static void boxes() {
        for (int n : NO_SUCH) {
            refused("48: image " + n, g -> g.image(n));
            refused("49: back " + n, g -> g.back(n));
        }
        refused("48: image 3", g -> g.image(3));
        refused("49: nothing was kept", g -> g.back(1));
        refused("49: back 3", g -> g.back(3));
    }

    private static NettleGreen atDay999() {
        NettleGreen green = CHECK.told(TEXT);
        green.image(1);
        for (int i = 0; i < 999; i++) {
            green.day();
        }
        green.forbid(0);
        green.undo();
        return green;
    }

    private static void lastDay() {
        refused("12: behind 999 of them", RefusedTest::atDay999, g -> g.day(), NONE);
    }

    private static void withoutPeople() {
        Past bare = () -> CHECK.told("bed 3;flares 9;lumps 4;");
        refused("6: person 0", bare, g -> g.person(0, 0), NONE);
        refused("7: meeting 0", bare, g -> g.meeting(0, 0), NONE);
        refused("8: brother 0", bare, g -> g.brother(0, 0), NONE);
        refused("9: round 0", bare, g -> g.round(0, 0), NONE);
        refused("10: touch", bare, g -> g.touch(0, 0), NONE);
        refused("11: abed", bare, g -> g.abed(), 0);
        refused("13: lesson", bare, g -> g.lesson(0), NONE);
        refused("14: forbid", bare, g -> g.forbid(0), NONE);
        refused("15: allow", bare, g -> g.allow(0), NONE);
        refused("16: call", bare, g -> g.call(0, 0), NONE);
        refused("19: will", bare, g -> g.will(0, 0, 0), NONE);
        refused("20: firm", bare, g -> g.firm(0, 0), NONE);
        refused("21: hurt", bare, g -> g.hurt(60), 0);
        refused("22: felled", bare, g -> g.felled(0), NONE);
        refused("23: peace, how many", bare, g -> g.peace(14, 0), 0);
        refused("23: peace, which", bare, g -> g.peace(14, 1), 0);
        refused("24: rounds", bare, g -> g.rounds(0, 0), NONE);
        refused("25: grip", bare, g -> g.grip(0, 0), NONE);
        refused("26: pupil", bare, g -> g.pupil(0, 0), NONE);
        refused("26: pupil's hurt", bare, g -> g.pupil(0, 1), NONE);
        refused("27: evenings", bare, g -> g.evenings(), 0);
        refused("28: rumour", bare, g -> g.rumour(0, 0), NONE);
        refused("29: manners", bare, g -> g.manners(), 0);
        refused("30: duel", bare, g -> g.duel(0), NONE);
        refused("31: scourge", bare, g -> g.scourge(0), NONE);
        refused("31: scourge's hurt", bare, g -> g.scourge(1), NONE);
        refused("32: relief", bare, g -> g.relief(0, 0), NONE);
        refused("33: sorest", bare, g -> g.sorest(), NONE);
        refused("34: firmest", bare, g -> g.firmest(), NONE);
        refused("35: due", bare, g -> g.due(), 0);
        refused("36: friends", bare, g -> g.friends(0), NONE);
        refused("37: uncared", bare, g -> g.uncared(), 0);
        refused("38: law", bare, g -> g.law(30), 0);
        refused("39: next", bare, g -> g.next(0), NONE);
        refused("42: seen", bare, g -> g.seen(0, 0, 0, true), NONE);
        refused("43: untell", bare, g -> bit(g.untell(0)), 0);
        refused("45: fits", bare, g -> g.fits(0), 0);
        refused("46: sure", bare, g -> g.sure(1, 0), NONE);
        refused("47: ask", bare, g -> g.ask(0, 0, 0), NONE);
    }

    /** What these leave lying there is another matter: the groups of the evenings that lay there are laid there again. */
    private static void lies(String what, Call call) {
        question(what, g -> {
            int answer = call.on(g);
            g.evenings();
            return answer;
        });
    }

    private static void question(String what, Call call) {
        refused(what, RefusedTest::busy, call, call.on(busy()));
    }

    private static void questionsDoNothing() {
        question("10: touch", g -> g.touch(3, 1));
        question("11: abed", g -> g.abed());
        question("19: will with flares", g -> g.will(2, 60, 1));
        question("19: will without", g -> g.will(2, 60, 0));
        question("20: firm", g -> g.firm(1, 60));
        question("21: hurt", g -> g.hurt(60));
        question("22: felled", g -> g.felled(1));
        question("23: peace", g -> g.peace(14, 1));
        question("25: grip", g -> g.grip(1, 30));
        question("26: pupil", g -> g.pupil(30, 0));
        question("28: rumour", g -> g.rumour(0, 2));
        question("29: manners", g -> g.manners());
        question("31: scourge", g -> g.scourge(0));
        question("32: relief", g -> g.relief(1, 0));
        question("33: sorest", g -> g.sorest());
        question("34: firmest", g -> g.firmest());
        question("35: due", g -> g.due());
        question("36: friends", g -> g.friends(1));
        question("37: uncared", g -> g.uncared());
        question("38: law", g -> g.law(30));
        question("39: next", g -> g.next(3));
        question("40: odds", g -> g.odds(4, 1));
        question("45: fits", g -> g.fits(5));
        question("46: sure", g -> g.sure(1, 5));
        question("47: ask", g -> g.ask(14, 0, 5));
        lies("24: rounds", g -> g.rounds(1, 14));
        lies("24: rounds of nobody", g -> g.rounds(2, 14));
        lies("24: rounds of too many days", g -> g.rounds(0, 15));
        lies("27: evenings", g -> g.evenings());
        lies("30: duel", g -> g.duel(0));
        lies("30: duel of none", g -> g.duel(4));
    }
}
