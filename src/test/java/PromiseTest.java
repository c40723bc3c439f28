/** Each promise by itself: ordinary inputs, the edges that the document names, and wrong inputs, reckoned by hand. */
public final class PromiseTest {
    private static final Check CHECK = new Check("PromiseTest");
    private static final int NONE = NettleGreen.NONE;
    private static final int MIN = Integer.MIN_VALUE;
    private static final int MAX = Integer.MAX_VALUE;

    // Behind its first day a, b, c have 6, 0, 0 lumps and are 8, 8, 0 firm; then 4, 1, 9 and 8, 8, 8; then 5, 0, 11.
    private static final String GREEN = "person a firm 5 learns 3 lumps 2;person b firm 8;person c firm 0 learns 9;"
        + "meet a b on 0;meet b c on 1;meet c a on 2;brother t cools 2 round b a;bed 20;flares 50;draw 100;";

    public static void main(String[] args) {
        promise1();
        promises2And3();
        promises4And5();
        promise4Anew();
        promises6To9();
        promises10And11();
        promise12();
        promise12Days();
        promise12Formula();
        promises13To16();
        promises17And18();
        promises19To22();
        noFlares();
        promise23();
        promise24();
        promises25And26();
        promises27And28();
        promise29();
        promise30();
        promises31And32();
        promises33To37();
        promises38And39();
        promise40();
        promise41();
        promises42To47();
        promise47();
        promises48And49();
        promise50();
        CHECK.end();
    }

    private static void due(String what, long got, long want) {
        CHECK.due(what, got, want);
    }

    private static void due(String what, boolean got, boolean want) {
        CHECK.due(what, got, want);
    }

    private static NettleGreen told(String text) {
        return CHECK.told(text);
    }

    private static void promise1() {
        NettleGreen green = new NettleGreen();
        int[] want = {0, 0, 0, 0, 0, 0, 0, 0, 0, 0, 0, 0, 0, 40, 0};
        for (int what = 0; what < want.length; what++) {
            due("1: about(" + what + ")", green.about(what), want[what]);
        }
        due("1: constant", NettleGreen.NONE, -1);
        due("1: fault", green.fault(0), 0);
        due("1: place", green.fault(1), NONE);
        due("1: undo", green.undo(), false);
        due("1: redo", green.redo(), false);
        due("1: back", green.back(0), NONE);
        due("1: lies", green.lies(0), -2);
        due("1: a day", green.day(), 0);
        due("1: day behind it", green.about(4), 1);
    }

    private static void promises2And3() {
        NettleGreen green = new NettleGreen();
        for (int n = 20; n <= 1600; n += 20) {
            due("2: feed", green.feed(0x62656420, 0x20202020, 0x20202020, 0x20202020, 0x20202020), n);
        }
        due("2: feed beyond 1,600", green.feed(0, 0, 0, 0, 0), NONE);
        due("2: bytes stay", green.about(10), 1600);
        due("3: end beyond", green.end(1601), NONE);
        due("3: end below 0", green.end(-1), NONE);
        due("3: end far beyond", green.end(MAX), NONE);
        due("3: end far below", green.end(MIN), NONE);
        due("3: bytes stay", green.about(10), 1600);
        due("3: end at all", green.end(1600), 1600);
        due("3: end", green.end(1581), 1581);
        due("2: 19 free bytes are too few", green.feed(0, 0, 0, 0, 0), NONE);
        due("3: end", green.end(1580), 1580);
        due("2: 20 free bytes are enough", green.feed(0, 0, 0, 0, 0), 1600);
        due("3: end at 0", green.end(0), 0);
        due("3: end at 0 again", green.end(0), 0);
        due("3: end beyond 0", green.end(1), NONE);
        // "bed 7;draw 123;     " with the highest byte of each number first.
        due("2: feed", green.feed(0x62656420, 0x373b6472, 0x61772031, 0x32333b20, 0x20202020), 20);
        due("4: hamlet", green.hamlet(), 0);
        due("2: bed by the bytes' order", green.about(13), 7);
        due("2: draw by the bytes' order", green.about(5), 123);
        due("2: a byte above 127", green.feed(0x2020e120, 0, 0, 0, 0), 20);
        due("4: no token", green.hamlet(), NONE);
        due("5: its place", green.fault(1), 2);
    }

    private static void promises4And5() {
        NettleGreen green = told(GREEN);
        green.day();
        green.forbid(1);
        green.seen(1, 1, 1, true);
        green.evenings();
        green.image(2);
        green.later(5);
        Check.put(green, "bed 5;bed");
        due("4: a fault", green.hamlet(), NONE);
        due("4: the tape is empty", green.about(10), 0);
        due("5: fault", green.fault(0), 2);
        due("5: place", green.fault(1), 6);
        due("5: another what", green.fault(2), NONE);
        due("5: another what", green.fault(-1), NONE);
        int[] stays = {3, 3, 1, 2, 1, 771, 2, 0, 1, 5, 0, 0, 3, 20, 50};
        for (int what = 0; what < stays.length; what++) {
            due("4: behind a fault about(" + what + ")", green.about(what), stays[what]);
        }
        due("4: behind a fault lumps", green.person(0, 2), 6);
        due("4: behind a fault a box", green.back(2), 1);
        Check.put(green, "person z firm 7 lumps 4;draw 55;");
        green.forbid(0);
        due("4: hamlet", green.hamlet(), 1);
        due("5: no fault", green.fault(0), 0);
        due("5: no place", green.fault(1), NONE);
        int[] anew = {1, 0, 0, 0, 0, 55, 0, 0, 0, 5, 0, 0, 0, 40, 0};
        for (int what = 0; what < anew.length; what++) {
            due("4: anew about(" + what + ")", green.about(what), anew[what]);
        }
        due("4: firm", green.person(0, 0), 7);
        due("4: learns if not told", green.person(0, 1), 0);
        due("4: lumps", green.person(0, 2), 4);
        due("4: boxes are empty", green.back(2), NONE);
        due("4: nothing lies there", green.lies(0), -2);
        due("4: nothing is seen", green.fits(9), 31);
        due("4: an empty text", green.hamlet(), 0);
        due("4: nobody", green.about(0), 0);
    }

    private static void promise4Anew() {
        NettleGreen green = told(GREEN + "lumps own + 1;");
        green.seen(1, 2, 3, true);
        green.fits(0);
        green.image(0);
        Check.put(green, "person a firm 3;person b firm 4;meet a b on 0;brother t cools 9 round a;bed 9;flares 9;draw 9;lumps 1;bed");
        due("4: a fault at its end", green.hamlet(), NONE);
        due("4: the formula that was", green.touch(0, 0), 6);
        due("4: the box that was", green.back(0), 0);
        for (int i = 0; i < 3; i++) {
            Check.put(green, "person a firm 3;");
            due("4: one", green.hamlet(), 1);
            int[] want = {1, 0, 0, 0, 0, 0, 0, 0, 0, 0, 0, 0, 0, 40, 0};
            for (int what = 0; what < want.length; what++) {
                due("4: told so about(" + what + ")", green.about(what), want[what]);
            }
            due("4: an empty box", green.back(0), NONE);
            due("4: learns as told", green.person(0, 1), 0);
            due("4: nobody else", green.person(1, 0), NONE);
        }
        Check.put(green, "person a firm 3;person b firm 4;meet a b on 0;");
        due("4: two", green.hamlet(), 2);
        due("4: the formula if not told", green.touch(0, 0), 6);
        due("45: all fit", green.fits(0), 31);
        green.seen(1, 1, 5, true);
        due("45: by this hamlet", green.fits(0), 5);
        Check.put(green, "person a firm 3;person b firm 4;meet a b on 0;lumps own;");
        green.hamlet();
        green.seen(1, 1, 5, true);
        due("45: by the next one", green.fits(0), 26);
    }

    private static void promises6To9() {
        NettleGreen green = told(GREEN);
        int[][] people = {{5, 3, 2, 0}, {8, 0, 0, 0}, {0, 9, 0, 0}};
        int[][] meetings = {{0, 1, 0, 0}, {1, 2, 1, 0}, {2, 0, 2, 0}};
        for (int i = 0; i < 3; i++) {
            for (int what = 0; what < 4; what++) {
                due("6: person " + i + " " + what, green.person(i, what), people[i][what]);
                due("7: meeting " + i + " " + what, green.meeting(i, what), meetings[i][what]);
            }
        }
        for (int wrong : new int[] {-1, 3, 4, MIN, MAX}) {
            due("6: no such person", green.person(wrong, 0), NONE);
            due("7: no such meeting", green.meeting(wrong, 0), NONE);
            due("8: no such brother", green.brother(wrong, 0), NONE);
            due("9: no such brother", green.round(wrong, 0), NONE);
            due("9: no such place", green.round(0, wrong), NONE);
            if (wrong != 3) {
                due("6: another what", green.person(0, wrong), NONE);
                due("7: another what", green.meeting(0, wrong), NONE);
            }
            due("8: another what", green.brother(0, wrong), NONE);
        }
        green.forbid(1);
        due("7: forbidden", green.meeting(1, 3), 1);
        due("8: cools", green.brother(0, 0), 2);
        due("8: how many", green.brother(0, 1), 2);
        due("8: another what", green.brother(0, 2), NONE);
        due("8: a second brother", green.brother(1, 0), NONE);
        due("9: first place", green.round(0, 0), 1);
        due("9: second place", green.round(0, 1), 0);
        due("9: third place", green.round(0, 2), NONE);
        green = told("person a firm 1 lumps 39;person b firm 1 lumps 40;person c firm 1 lumps 41;");
        due("6: 39 of 40", green.person(0, 3), 0);
        due("6: 40 of 40", green.person(1, 3), 1);
        due("6: 41 of 40", green.person(2, 3), 1);
    }

    private static void promises10And11() {
        NettleGreen green = told(GREEN);
        due("10: the first one", green.touch(0, 0), 4);
        due("10: the other one", green.touch(0, 1), 1);
        due("10: not its day", green.touch(1, 1), 9);
        due("10: another what", green.touch(0, 2), NONE);
        due("10: another what", green.touch(0, -1), NONE);
        due("10: no such meeting", green.touch(3, 0), NONE);
        due("10: no such meeting", green.touch(-1, 0), NONE);
        green.forbid(1);
        due("10: forbidden", green.touch(1, 1), 9);
        due("11: nobody", green.abed(), 0);
        green = told("person a firm 1 lumps 99;person b firm 12;person c firm 2 lumps 50;meet a b on 3;meet b c on 3;bed 50;");
        due("10: abed and without the bound of 99", green.touch(0, 0), 8);
        due("10: 0 at least", green.touch(0, 1), 0);
        due("11: a and c", green.abed(), 5);
        green = told("person a firm 1;person b firm 12;meet a b on 3;lumps other*2;");
        due("10: 20 at most", green.touch(0, 0), 20);
        due("10: the other one's firm", green.touch(0, 1), 2);
    }

    private static void promise12() {
        NettleGreen green = told(GREEN);
        int[][] behind = {{1, 6, 0, 0, 8, 8, 0, 771}, {2, 4, 1, 9, 8, 8, 8, 560}, {4, 5, 0, 11, 8, 8, 8, 438}};
        for (int day = 0; day < 3; day++) {
            due("12: day " + day, green.day(), behind[day][0]);
            for (int p = 0; p < 3; p++) {
                due("12: lumps of " + p + " behind day " + day, green.person(p, 2), behind[day][1 + p]);
                due("12: firm of " + p + " behind day " + day, green.person(p, 0), behind[day][4 + p]);
            }
            due("12: seed behind day " + day, green.about(5), behind[day][7]);
            due("12: the day behind day " + day, green.about(4), day + 1);
        }
        for (int day = 3; day < 7; day++) {
            due("12: nobody meets on day " + day, green.day(), 0);
        }
        due("12: next week", green.day(), 1);
        green = told("person a firm 9;person b firm 9;meet a b on 2;");
        for (int day = 0; day < 999; day++) {
            due("12: a day, and not NONE", green.day() != NONE, true);
        }
        due("12: behind 999 of them", green.day(), NONE);
        due("12: doing nothing", green.about(4), 999);
        due("39: what lies ahead goes on to day 1,003", green.next(0), 5);
    }

    private static void promise12Days() {
        // The second meeting of the day does not take place: the first one has put b to bed.
        NettleGreen green = told("person a firm 9;person b firm 0;person c firm 0;meet a b on 0;meet b c on 0;meet a c on 0;"
            + "bed 9;brother x cools 5 round b;");
        due("12: abed then", green.day(), 5);
        due("12: b", green.person(1, 2), 4);
        due("12: c", green.person(2, 2), 9);
        // Both have 99 at most, and the flare behind does not go beyond.
        green = told("person a firm 0 lumps 95;person b firm 0 lumps 90;meet a b on 0;bed 99;flares 100;");
        due("12: a day", green.day(), 1);
        due("12: 99 at most", green.person(0, 2), 99);
        due("12: 99 at most by a flare", green.person(1, 2), 99);
        due("12: abed", green.abed(), 3);
        // Two brothers at one of them, in order; what is below 0 is 0, and one without lumps has no flare.
        green = told("person a firm 9 lumps 5;person b firm 9 lumps 1;brother x cools 3 round a;brother y cools 3 round a b;"
            + "flares 100;draw 3;");
        due("12: a day", green.day(), 0);
        due("12: cooled twice", green.person(0, 2), 0);
        due("12: a flare", green.person(1, 2), 2);
        due("12: one draw alone", green.about(5), 482);
        due("12: a day", green.day(), 0);
        due("12: cooled by the second brother on the second day", green.person(1, 2), 0);
        due("12: no draw", green.about(5), 482);
        // The seed goes on without flares, too; a flare needs a rest that is less than what is told.
        green = told("person a firm 9 lumps 5;draw 0;flares 71;");
        green.day();
        due("12: 71 is not less than 71", green.person(0, 2), 5);
        due("12: the seed", green.about(5), 71);
        green = told("person a firm 9 lumps 5;draw 0;flares 72;");
        green.day();
        due("12: 71 is less than 72", green.person(0, 2), 6);
        green = told("person a firm 9 lumps 5;draw 999;");
        green.day();
        due("12: the seed without flares", green.about(5), 934);
        // Who is less firm learns, but not beyond the other one; who is alike does not.
        green = told("person a firm 3 learns 9;person b firm 5 learns 9;person c firm 5 learns 9;meet a b on 0;meet c b on 0;"
            + "meet b a on 1;");
        green.day();
        due("12: as firm as the other one", green.person(0, 0), 5);
        due("12: the firmer one stays", green.person(1, 0), 5);
        due("12: alike", green.person(2, 0), 5);
    }

    private static int touched(String formula, int firmA, int firmB, int sore, int days) {
        NettleGreen green = told("person a firm " + firmA + " lumps " + sore + ";person b firm " + firmB
            + ";meet a b on 6;lumps " + formula + ";bed 99;");
        for (int i = 0; i < days; i++) {
            green.day();
        }
        return green.touch(0, 0);
    }

    private static void formula(String formula, int want) {
        due("12: lumps " + formula, touched(formula, 4, 7, 13, 3), want);
    }

    private static void promise12Formula() {
        formula("own", 4);
        formula("other", 7);
        formula("sore", 13);
        formula("day", 3);
        formula("week", 0);
        due("12: week", touched("week*3", 30, 30, 0, 22), 9);
        due("12: day", touched("day", 30, 30, 0, 19), 19);
        formula("0-1", 0);
        formula("21", 20);
        formula("2+3*4", 14);
        formula("(2+3)*4-5", 15);
        formula("20-5-3", 12);
        formula("17/5", 3);
        formula("(0-17)/5+10", 7);
        formula("17%5", 2);
        formula("(0-17)%5+10", 8);
        formula("5/0+3", 3);
        formula("5%0+3", 3);
        formula("100/5/2%4", 2);
        formula("2<3", 1);
        formula("3<2", 0);
        formula("3>2", 1);
        formula("2>3", 0);
        formula("3=3", 1);
        formula("3=2", 0);
        formula("2+1=3", 1);
        formula("not 5", 0);
        formula("not 0", 1);
        formula("not not 5", 1);
        formula("not 1=2", 1);
        formula("not 0 and 0", 0);
        formula("5 and 7", 1);
        formula("5 and 0", 0);
        formula("0 or 9", 1);
        formula("0 or 0", 0);
        formula("1 or 1 and 0", 1);
        formula("(1 or 1) and 0", 0);
        formula("(0-1) and (0-1)", 1);
        formula("9 - (own > other) * 5", 9);
        // 9999 * 9999 * 9999 wraps to 3 * 2^29 or so; the sign tells that it does.
        due("12: wraps", touched("(9999*9999*9999<0)*2+(9999*9999*9999>0)", 0, 0, 0, 0), 9999 * 9999 * 9999 < 0 ? 2 : 1);
        due("12: the least by 1 below 0", touched("(2048*1024*1024/(0-1)<0)*7", 0, 0, 0, 0), 7);
        formula("2048*1024*1024%(0-1)+1", 1);
    }

    private static void promises13To16() {
        NettleGreen green = told("person a firm 28 lumps 3;person b firm 0;meet a b on 0;meet b a on 1;brother t cools 2 round b;");
        due("13: lesson", green.lesson(0), 29);
        due("13: lesson", green.lesson(0), 30);
        due("13: 30 already", green.lesson(0), NONE);
        due("13: nobody", green.lesson(2), NONE);
        due("13: nobody", green.lesson(-1), NONE);
        due("13: two acts", green.about(6), 2);
        due("14: forbid", green.forbid(1), 2);
        due("14: forbid", green.forbid(0), 3);
        due("14: it is", green.forbid(0), NONE);
        due("14: none such", green.forbid(2), NONE);
        due("14: none such", green.forbid(-1), NONE);
        due("12: all are forbidden", green.day(), 0);
        due("15: allow", green.allow(1), 1);
        due("15: it is not", green.allow(1), NONE);
        due("15: none such", green.allow(2), NONE);
        due("15: none such", green.allow(MIN), NONE);
        due("12: one is allowed", green.day(), 2);
        due("16: cooled, not of the round", green.call(0, 0), 1);
        due("16: 0 at least", green.call(0, 0), 0);
        due("16: no lumps", green.call(0, 0), NONE);
        due("16: no such brother", green.call(1, 1), NONE);
        due("16: no such brother", green.call(-1, 1), NONE);
        due("16: nobody", green.call(0, 2), NONE);
        due("16: nobody", green.call(0, -1), NONE);
        due("16: acts", green.about(6), 9);
    }

    private static void promises17And18() {
        NettleGreen green = told(GREEN);
        green.day();
        green.lesson(1);
        green.forbid(2);
        green.call(0, 0);
        due("17: undo the call", green.undo(), true);
        due("17: lumps", green.person(0, 2), 6);
        due("17: undo the forbidding", green.undo(), true);
        due("17: not forbidden", green.about(3), 0);
        due("17: undo the lesson", green.undo(), true);
        due("17: firm", green.person(1, 0), 8);
        due("17: undo the day", green.undo(), true);
        due("17: lumps of the start", green.person(0, 2), 2);
        due("17: firm of the start", green.person(0, 0), 5);
        due("17: seed of the start", green.about(5), 100);
        due("17: day of the start", green.about(4), 0);
        due("17: there is none", green.undo(), false);
        due("18: four", green.about(7), 4);
        due("18: redo the day", green.redo(), true);
        due("18: seed", green.about(5), 771);
        due("18: redo the lesson", green.redo(), true);
        due("18: firm", green.person(1, 0), 9);
        due("18: refused acts are none", green.allow(0), NONE);
        due("18: two are left", green.about(7), 2);
        green.lesson(0);
        due("18: not behind another act", green.redo(), false);
        due("17: three acts", green.about(6), 3);
        for (int i = 0; i < 45; i++) {
            due("14, 15: on and off", i % 2 == 0 ? green.forbid(0) : green.allow(0), i % 2 == 0 ? 1 : 0);
            due("17: kept acts", green.about(6), Math.min(40, 4 + i));
        }
        due("17: 40 are kept", green.about(6), 40);
        for (int i = 0; i < 40; i++) {
            due("17: undo", green.undo(), true);
        }
        due("17: the oldest are gone", green.undo(), false);
        due("17: behind five of them", green.about(3), 1);
        for (int i = 0; i < 40; i++) {
            due("18: redo", green.redo(), true);
        }
        due("18: there is none", green.redo(), false);
        due("18: as before", green.about(3), 1);
    }

    private static void promises19To22() {
        NettleGreen green = told(GREEN);
        due("19: now", green.will(0, 0, 0), 2);
        due("19: behind 3 days", green.will(2, 3, 0), 10);
        due("19: behind 3 days with flares", green.will(2, 3, 1), 11);
        due("19: nobody", green.will(3, 0, 0), NONE);
        due("19: nobody", green.will(-1, 0, 0), NONE);
        due("19: 61 days", green.will(0, 61, 0), NONE);
        due("19: below 0 days", green.will(0, -1, 0), NONE);
        due("19: another what", green.will(0, 1, 2), NONE);
        due("19: another what", green.will(0, 1, -1), NONE);
        due("20: now", green.firm(0, 0), 5);
        due("20: behind a day", green.firm(0, 1), 8);
        due("20: behind 60", green.firm(2, 60), 8);
        due("20: 61 days", green.firm(0, 61), NONE);
        due("20: below 0 days", green.firm(0, -1), NONE);
        due("20: nobody", green.firm(3, 1), NONE);
        due("21: now", green.hurt(0), 2);
        due("21: behind 1", green.hurt(1), 6);
        due("21: behind 3", green.hurt(3), 15);
        due("21: 61 days", green.hurt(61), NONE);
        due("21: below 0 days", green.hurt(-1), NONE);
        due("21: nothing is done", green.about(4), 0);
        green = told("person a firm 0;person b firm 0;person c firm 9 lumps 18;meet a b on 0;meet a b on 1;bed 18;");
        due("22: behind 2", green.felled(0), 2);
        due("22: now", green.felled(2), 0);
        due("22: nobody", green.felled(3), NONE);
        due("22: nobody", green.felled(-1), NONE);
        due("20: 60 days", green.firm(1, 60), 0);
        due("21: 60 days", green.hurt(60), 54);
        green = told("person a firm 8;person b firm 30;meet a b on 3;bed 9;");
        due("22: on the 60th day", green.felled(0), 60);
        due("22: never", green.felled(1), NONE);
        green.lesson(0);
        due("22: not any more", green.felled(0), NONE);
        green = told("person a firm 8;person b firm 30;meet a b on 4;bed 9;");
        due("22: on the 61st day", green.felled(0), NONE);
    }

    /** Without flares none lies abed and they meet on each day 0 of a week; with flares a would lie abed on day 7. */
    private static void noFlares() {
        NettleGreen green = told("person a firm 0 learns 1 lumps 3;person b firm 9;meet a b on 0;lumps 0;bed 9;flares 100;");
        due("19: none", green.will(0, 7, 0), 3);
        due("19: as the seed tells", green.will(0, 7, 1), 10);
        due("19: without any lumps", green.will(1, 60, 1), 0);
        due("20: no flares", green.firm(0, 60), 9);
        due("21: no flares", green.hurt(7), 3);
        due("22: no flares", green.felled(0), NONE);
        due("23: no flares", green.peace(14, 0), 0);
        due("25: no flares", green.grip(0, 30), 0);
        due("26: no flares", green.pupil(30, 1), 3);
        due("29: no flares", green.manners(), 57);
        due("31: no flares", green.scourge(1), 3);
        due("38: no flares", green.law(3), 3);
        due("12: a day with flares", green.day(), 1);
        due("39: no flares", green.next(0), 7);
        due("45: no flares", green.seen(14, 0, 4, true), 0);
        due("45: no flares", green.fits(0), 0);
        green = told("person a firm 9 lumps 3;person b firm 9;brother t cools 1 round b;flares 100;");
        due("24: no flares", green.rounds(0, 14), 3);
        due("32: no flares", green.relief(0, 1), 2);
    }

    private static void promise23() {
        NettleGreen green = told("person a firm 0;person b firm 0;meet a b on 0;meet a b on 1;bed 18;");
        due("23: none needed, how many", green.peace(1, 0), 0);
        due("23: none needed, which", green.peace(1, 1), 0);
        due("23: one, how many", green.peace(2, 0), 1);
        due("23: one, the least set", green.peace(2, 1), 1);
        due("23: one till the 8th day", green.peace(8, 1), 1);
        due("23: both", green.peace(9, 0), 2);
        due("23: both", green.peace(9, 1), 3);
        due("23: both till the 14th", green.peace(14, 1), 3);
        due("23: 15", green.peace(15, 0), NONE);
        due("23: below 0", green.peace(-1, 0), NONE);
        due("23: another what", green.peace(1, 2), NONE);
        green.forbid(0);
        due("23: besides those that are", green.peace(9, 1), 2);
        due("23: besides those that are, how many", green.peace(9, 0), 1);
        due("23: nothing is done", green.about(3), 1);
        green = told("person a firm 0 lumps 18;bed 18;");
        due("23: by none", green.peace(0, 0), NONE);
        due("23: by none", green.peace(0, 1), NONE);
        // a is put to bed by two meetings, c by one.
        green = told("person a firm 4;person b firm 9;person c firm 0;meet a b on 0;meet a b on 1;meet c b on 2;bed 9;");
        due("23: one of two and the third", green.peace(3, 1), 5);
        due("23: two", green.peace(3, 0), 2);
        // The lesson that a meeting gives is what keeps him up: it must not be forbidden.
        green = told("person a firm 0 learns 9;person b firm 9;meet a b on 0;meet a b on 1;meet a b on 2;bed 10;");
        due("23: a meeting that teaches", green.peace(14, 1), 0);
    }

    private static void promise24() {
        NettleGreen green = told("person a firm 9 lumps 9;person b firm 9 lumps 1;person c firm 9 lumps 5;"
            + "brother t cools 5 round c b a;");
        due("24: 0 days", green.rounds(0, 0), 15);
        CHECK.lies("24: 0 days", green, 0, 1, 2);
        due("24: 1 day", green.rounds(0, 1), 10);
        CHECK.lies("24: 1 day", green, 0, 1, 2);
        due("24: 2 days", green.rounds(0, 2), 5);
        CHECK.lies("24: 2 days", green, 0, 2, 1);
        due("24: 3 days", green.rounds(0, 3), 4);
        CHECK.lies("24: 3 days", green, 0, 1, 2);
        due("24: 4 days", green.rounds(0, 4), 0);
        due("24: 14 days", green.rounds(0, 14), 0);
        due("24: the round stays", green.round(0, 0), 2);
        due("24: 15 days", green.rounds(0, 15), NONE);
        CHECK.lies("24: behind NONE", green);
        green.rounds(0, 0);
        due("24: no such brother", green.rounds(1, 0), NONE);
        CHECK.lies("24: behind NONE", green);
        green.rounds(0, 0);
        due("24: below 0", green.rounds(0, -1), NONE);
        CHECK.lies("24: behind NONE", green);
        green.day();
        // On day 1 the second place is the first to be cooled; c has been.
        due("24: from day 1 on", green.rounds(0, 1), 5);
        CHECK.lies("24: from day 1 on", green, 1, 0, 2);
        green = told("person a firm 9 lumps 9;person b firm 9 lumps 9;person c firm 9 lumps 9;brother s cools 9 round c;"
            + "brother t cools 5 round c b;");
        due("24: the second brother beside the first", green.rounds(1, 1), 13);
        CHECK.lies("24: the second brother", green, 1, 2);
        due("24: a round of one, the other brother as told", green.rounds(0, 1), 18);
        CHECK.lies("24: a round of one", green, 2);
        green = told("person a firm 9;person b firm 9;person c firm 9;person d firm 9;person e firm 9;person f firm 9 lumps 3;"
            + "brother t cools 3 round a b c d e f;");
        due("24: six of them", green.rounds(0, 1), 0);
        CHECK.lies("24: six of them", green, 5, 0, 1, 2, 3, 4);
    }

    private static void promises25And26() {
        NettleGreen green = told("person a firm 0;person b firm 30;person c firm 3 lumps 5;meet a b on 0;bed 5;");
        due("25: now", green.grip(0, 0), 0);
        due("25: one meeting", green.grip(0, 1), 5);
        due("25: four meetings", green.grip(0, 28), 8);
        due("25: five meetings", green.grip(0, 30), 9);
        due("25: the firm one, too", green.grip(1, 1), 5);
        due("25: 31 days", green.grip(0, 31), NONE);
        due("25: below 0", green.grip(0, -1), NONE);
        due("25: nobody", green.grip(3, 0), NONE);
        due("25: nobody", green.grip(-1, 0), NONE);
        due("25: by none", green.grip(2, 0), NONE);
        due("25: nothing is done", green.person(0, 0), 0);
        green = told("person a firm 0;person b firm 9;meet a b on 0;lumps 30-own;bed 1;");
        due("25: 30", green.grip(0, 1), 30);
        green = told("person a firm 0;person b firm 9;meet a b on 0;lumps 31-own;bed 1;");
        due("25: not by 30", green.grip(0, 1), NONE);
        green = told("person a firm 9;person b firm 5;meet a b on 0;");
        due("26: b", green.pupil(1, 0), 1);
        due("26: hurt then", green.pupil(1, 1), 3);
        due("26: now all are alike", green.pupil(0, 0), 0);
        due("26: hurt then", green.pupil(30, 1), 15);
        due("26: 31 days", green.pupil(31, 0), NONE);
        due("26: below 0", green.pupil(-1, 0), NONE);
        due("26: another what", green.pupil(1, 2), NONE);
        due("26: another what", green.pupil(1, -1), NONE);
        green = told("person a firm 30;person b firm 0;meet a b on 0;lumps own;");
        due("26: not one who is 30", green.pupil(1, 0), 1);
        due("26: though it hurts more", green.pupil(1, 1), 21);
        green = told("person a firm 30;person b firm 30;");
        due("26: there is none", green.pupil(1, 0), NONE);
        due("26: there is none", green.pupil(1, 1), NONE);
    }

    private static void promises27And28() {
        NettleGreen green = new NettleGreen();
        due("27: without people", green.evenings(), 0);
        CHECK.lies("27: without people", green);
        String six = "person a firm 0;person b firm 0;person c firm 0;person d firm 0;person e firm 0;person f firm 0;";
        green = told(six);
        due("27: without meetings", green.evenings(), 1);
        CHECK.lies("27: without meetings", green, 0, 0, 0, 0, 0, 0);
        due("28: it does not come", green.rumour(0, 1), NONE);
        due("28: both are one", green.rumour(5, 5), 0);
        due("28: nobody", green.rumour(6, 6), NONE);
        due("28: nobody", green.rumour(-1, 0), NONE);
        due("28: nobody", green.rumour(0, 6), NONE);
        // Person by person the least free group would need three; two are enough.
        green = told(six + "meet a d on 0;meet a f on 0;meet c b on 0;meet c f on 0;meet e b on 0;meet e d on 0;");
        due("27: two groups", green.evenings(), 2);
        CHECK.lies("27: two groups", green, 0, 1, 0, 1, 0, 1);
        due("28: one meeting", green.rumour(0, 3), 1);
        due("28: three meetings", green.rumour(0, 1), 3);
        green.forbid(0);
        due("27: of like ones the first", green.evenings(), 2);
        due("28: the long way", green.rumour(0, 3), 5);
        due("28: back", green.rumour(3, 0), 5);
        green.forbid(1);
        due("28: not at all", green.rumour(0, 3), NONE);
        due("27: a alone", green.evenings(), 2);
        CHECK.lies("27: a alone", green, 0, 0, 1, 0, 1, 0);
        green = told(six + "meet a b on 0;meet b c on 0;meet c a on 0;meet d a on 0;meet d b on 0;meet d c on 0;");
        due("27: four", green.evenings(), 4);
        CHECK.lies("27: four", green, 0, 1, 2, 3, 0, 0);
    }

    private static void promise29() {
        NettleGreen green = told("person a firm 0 learns 3;person b firm 9;meet a b on 3;");
        due("29: the third lesson is on day 17", green.manners(), 18);
        green.day();
        due("29: from day 1 on", green.manners(), 17);
        green.forbid(0);
        due("29: forbidden", green.manners(), 0);
        due("29: nobody", new NettleGreen().manners(), 0);
        green = told("person a firm 0 learns 1;person b firm 30;meet a b on 3;lumps 0;");
        due("29: not in these", green.manners(), NONE);
        green = told("person a firm 0 learns 1;person b firm 9;meet a b on 3;lumps 0;");
        due("29: the ninth lesson is on day 59", green.manners(), 60);
        green = told("person a firm 0 learns 1;person b firm 9;meet a b on 4;lumps 0;");
        due("29: on day 60", green.manners(), NONE);
        green = told("person a firm 0 learns 1;person b firm 30;meet a b on 0;bed 9;brother t cools 1 round b;");
        due("29: he lies abed", green.manners(), 1);
        green = told("person a firm 0 learns 1;person b firm 2;meet a b on 0;bed 9;brother t cools 1 round a;");
        due("29: a second one of a week later", green.manners(), 8);
        // With 20 lumps, cooled by 1 on each day, he lies abed on day 7 and is up again on day 14.
        green = told("person a firm 0 learns 1;person b firm 2;meet a b on 0;bed 9;brother t cools 1 round a;lumps 20-own*20;");
        due("29: a quiet week ahead of another lesson", green.manners(), 1);
    }

    private static void promise30() {
        String both = "person a firm 0;person b firm 0;meet a b on 5;";
        NettleGreen green = told(both);
        due("30: firmer both", green.duel(0), 1);
        CHECK.lies("30: firmer both", green, 1, 1);
        due("30: no such meeting", green.duel(1), NONE);
        CHECK.lies("30: behind NONE", green);
        due("30: no such meeting", green.duel(-1), NONE);
        green.forbid(0);
        due("30: forbidden", green.duel(0), 1);
        green = told(both + "lumps 7;");
        due("30: neither", green.duel(0), 1);
        CHECK.lies("30: neither", green, 0, 0);
        green = told(both + "lumps (own < other)*10;");
        due("30: both or neither", green.duel(0), 2);
        CHECK.lies("30: both or neither", green, 0, 0);
        green = told(both + "lumps (own < 5)*9;");
        due("30: firmer by 5 at least", green.duel(0), 1);
        CHECK.lies("30: firmer by 5 at least", green, 1, 1);
        green = told(both + "lumps (own < 6)*9;");
        due("30: and not by 6", green.duel(0), 1);
        CHECK.lies("30: and not by 6", green, 0, 0);
        green = told(both + "lumps own < 5;");
        due("30: as good either way", green.duel(0), 4);
        CHECK.lies("30: as good either way", green, 0, 0);
        green = told("person a firm 0;person b firm 5;meet a b on 5;"
            + "lumps (own=0 and other=5)*10+(own=5 and other>0)*5+(own=10 and other=0)*5;");
        due("30: no rest", green.duel(0), 0);
        CHECK.lies("30: no rest", green);
        green = told("person a firm 30;person b firm 27;meet a b on 5;lumps (own < 31)*9-(own=30)*(other=30)*5;");
        due("30: 30 at most", green.duel(0), 1);
        CHECK.lies("30: 30 at most", green, 0, 1);
        green = told("person a firm 4 lumps 95;person b firm 9;meet b a on 5;bed 50;");
        due("30: without the bound of 99", green.duel(0), 1);
        CHECK.lies("30: the first one as told", green, 0, 1);
    }

    private static void promises31And32() {
        NettleGreen green = told("person a firm 5;person b firm 8;person c firm 2;meet a b on 0;meet b c on 1;meet a c on 2;"
            + "brother t cools 4 round a;brother s cools 9 round b;lumps 9-other;");
        due("31: the one", green.scourge(0), scourgeByHand(green, 0));
        due("31: hurt", green.scourge(1), scourgeByHand(green, 1));
        due("31: another what", green.scourge(2), NONE);
        due("31: another what", green.scourge(-1), NONE);
        due("31: nothing is done", green.about(3), 0);
        due("31: without people", new NettleGreen().scourge(0), NONE);
        due("31: without people", new NettleGreen().scourge(1), NONE);
        green = told("person a firm 0;person b firm 0;person c firm 0;meet a b on 0;meet b c on 1;");
        due("31: b is in both", green.scourge(0), 1);
        due("31: nothing is left", green.scourge(1), 0);
        green.forbid(1);
        due("31: a is as good as b", green.scourge(0), 0);
        green = told("person a firm 9;person b firm 9;person c firm 9 lumps 1;brother t cools 5 round a;brother s cools 1 round b;");
        due("32: c", green.relief(0, 0), 2);
        due("32: hurt", green.relief(0, 1), 0);
        due("32: the second one", green.relief(1, 0), 2);
        due("32: another what", green.relief(0, 2), NONE);
        due("32: another what", green.relief(0, -1), NONE);
        due("32: no such brother", green.relief(2, 0), NONE);
        due("32: no such brother", green.relief(-1, 0), NONE);
        green.call(0, 2);
        due("32: the first, also without lumps", green.relief(0, 0), 0);
        due("32: hurt", green.relief(0, 1), 0);
        green = told("person a firm 9 lumps 3;person b firm 9 lumps 9;person c firm 9 lumps 5;brother t cools 5 round c;");
        // c is cooled in his round anyway.
        due("32: not in the round", green.relief(0, 0), 1);
        due("32: hurt", green.relief(0, 1), 7);
    }

    private static int scourgeByHand(NettleGreen green, int what) {
        int[][] of = {{0, 2}, {0, 1}, {1, 2}};
        int best = NONE;
        int least = MAX;
        for (int p = 0; p < 3; p++) {
            for (int m : of[p]) {
                green.forbid(m);
            }
            if (green.hurt(7) < least) {
                best = p;
                least = green.hurt(7);
            }
            for (int m : of[p]) {
                green.allow(m);
            }
        }
        return what == 0 ? best : least;
    }

    private static void promises33To37() {
        NettleGreen green = new NettleGreen();
        due("33: without people", green.sorest(), NONE);
        due("34: without people", green.firmest(), NONE);
        due("35: without people", green.due(), 0);
        due("36: without people", green.friends(0), NONE);
        due("37: without people", green.uncared(), 0);
        green = told("person a firm 0;person b firm 7;person c firm 7 lumps 3;person d firm 2 lumps 3;meet a b on 0;meet b c on 0;"
            + "meet c d on 1;meet b a on 3;brother t cools 1 round d a;bed 40;");
        due("33: of like ones the first", green.sorest(), 2);
        due("34: of like ones the first", green.firmest(), 1);
        due("35: today's", green.due(), 3);
        due("36: b", green.friends(1), 5);
        due("36: a", green.friends(0), 2);
        due("36: nobody", green.friends(4), NONE);
        due("36: nobody", green.friends(-1), NONE);
        due("37: b and c", green.uncared(), 6);
        green.forbid(0);
        due("35: not the forbidden one", green.due(), 2);
        due("36: by another meeting", green.friends(0), 2);
        green.forbid(3);
        due("36: none", green.friends(0), 0);
        green.day();
        due("35: tomorrow's", green.due(), 4);
        due("35: by then", green.day(), 4);
        due("35: nobody", green.due(), 0);
        green = told("person a firm 0;person b firm 0;person c firm 0 lumps 9;meet a b on 0;meet a b on 0;meet a c on 0;bed 9;");
        due("35: each by itself", green.due(), 3);
        due("35: but not together", green.day(), 1);
        due("33: none has more than 0", told("person a firm 0;person b firm 0;").sorest(), 0);
        due("34: none has more than 0", told("person a firm 0;person b firm 0;").firmest(), 0);
        green = told("person a firm 0;person b firm 0;brother t cools 1 round a;brother s cools 1 round b a;");
        due("37: in no round at all", green.uncared(), 0);
    }

    private static void promises38And39() {
        NettleGreen green = told("person a firm 0 learns 9;person b firm 30;person c firm 5 lumps 2;meet a b on 0;meet b c on 6;");
        due("38: 5", green.law(5), 18);
        due("38: 0", green.law(0), 38);
        due("38: 30", green.law(30), 2);
        due("38: 31", green.law(31), NONE);
        due("38: below 0", green.law(-1), NONE);
        due("38: without people", new NettleGreen().law(0), 0);
        due("38: nothing is done", green.person(1, 0), 30);
        due("39: today", green.next(0), 1);
        due("39: on the seventh", green.next(1), 7);
        due("39: none such", green.next(2), NONE);
        due("39: none such", green.next(-1), NONE);
        green.day();
        due("39: in a week", green.next(0), 7);
        green.forbid(0);
        due("39: forbidden", green.next(0), NONE);
        green = told("person a firm 9 lumps 99;person b firm 9;meet a b on 3;bed 40;brother t cools 1 round a;");
        // He has 40 behind 59 days and 39 behind 60 of them: day 59 finds him abed.
        due("39: abed till then", green.next(0), NONE);
        green = told("person a firm 9 lumps 98;person b firm 9;meet a b on 3;bed 40;brother t cools 1 round a;");
        due("39: on the sixtieth", green.next(0), 60);
    }

    private static void odds(int flares, int n, int upper, int lower) {
        NettleGreen green = told("flares " + flares + ";");
        due("40: flares " + flares + " of " + n + ", upper", green.odds(n, 0), upper);
        due("40: flares " + flares + " of " + n + ", lower", green.odds(n, 1), lower);
    }

    private static void promise40() {
        odds(25, 0, 1, 1);
        odds(25, 1, 3, 4);
        odds(25, 4, 81, 256);
        odds(0, 4, 1, 1);
        odds(100, 0, 1, 1);
        odds(100, 1, 0, 1);
        odds(100, 4, 0, 1);
        odds(1, 4, 96059601, 100000000);
        odds(98, 2, 1, 2500);
        odds(70, 3, 27, 1000);
        NettleGreen green = told("flares 25;");
        due("40: 5", green.odds(5, 0), NONE);
        due("40: below 0", green.odds(-1, 0), NONE);
        due("40: another part", green.odds(1, 2), NONE);
        due("40: another part", green.odds(1, -1), NONE);
        due("40: if not told", new NettleGreen().odds(3, 0), 1);
    }

    private static void promise41() {
        NettleGreen green = told(GREEN);
        due("41: nothing", green.lies(0), -2);
        green.evenings();
        CHECK.lies("41: groups", green, 0, 1, 2);
        due("41: below 0", green.lies(-1), -2);
        due("41: far below", green.lies(MIN), -2);
        due("41: far beyond", green.lies(MAX), -2);
        green.day();
        green.undo();
        green.image(0);
        green.back(0);
        CHECK.lies("41: still the groups", green, 0, 1, 2);
        green.rounds(0, 0);
        CHECK.lies("41: now the round", green, 0, 1);
    }

    private static void promises42To47() {
        // Behind a day a has 6 whatever b was; b has 9 less how firm he was, 0 at least.
        NettleGreen green = told("person a firm 3;person b firm 7 lumps 1;meet a b on 0;lumps 9-own;flares 100;");
        due("45: all", green.fits(0), 31);
        due("46: least", green.sure(0, 0), 0);
        due("46: greatest", green.sure(1, 0), 30);
        due("42: b had 5 and more", green.seen(1, 1, 5, true), 0);
        due("45: 0 .. 5", green.fits(0), 6);
        due("42: b had not 7", green.seen(1, 1, 7, false), 1);
        due("45: 4 and 5", green.fits(0), 2);
        due("46: least", green.sure(0, 0), 4);
        due("46: greatest", green.sure(1, 0), 5);
        due("46: another what", green.sure(2, 0), NONE);
        due("46: another what", green.sure(-1, 0), NONE);
        due("47: b", green.ask(1, 0, 0), 1);
        due("47: one is left", green.ask(1, 1, 0), 1);
        due("47: of like ones the first", green.ask(0, 0, 0), 0);
        due("47: both are left", green.ask(0, 1, 0), 2);
        due("45: ahead of all", green.fits(-1), 31);
        green.day();
        green.lesson(1);
        due("45: acts do not matter", green.fits(0), 2);
        due("44: later", green.later(10), 10);
        due("43: untell", green.untell(0), true);
        due("43: it is so already", green.untell(0), false);
        due("43: none such", green.untell(2), false);
        due("43: none such", green.untell(-1), false);
        due("45: as known at 9", green.fits(9), 2);
        due("45: as known at 10", green.fits(10), 27);
        due("45: as known at the end", green.fits(MAX), 27);
        due("45: as known at the start", green.fits(MIN), 31);
        due("42: told and untold at one time", green.seen(0, 0, 99, true), 2);
        due("45: as known with it", green.fits(10), 0);
        due("46: none fits", green.sure(0, 10), NONE);
        due("47: none fits", green.ask(1, 0, 10), NONE);
        due("47: none fits", green.ask(1, 1, 10), NONE);
        due("43: untell", green.untell(2), true);
        due("45: as known without it", green.fits(10), 27);
        due("44: 1000", green.later(1000), 1010);
        due("44: 0", green.later(0), 1010);
        due("44: 1001", green.later(1001), NONE);
        due("44: below 0", green.later(-1), NONE);
        due("42: 15 days", green.seen(15, 0, 0, true), NONE);
        due("42: below 0 days", green.seen(-1, 0, 0, true), NONE);
        due("42: nobody", green.seen(0, 2, 0, true), NONE);
        due("42: nobody", green.seen(0, -1, 0, true), NONE);
        due("42: 100 lumps", green.seen(0, 0, 100, true), NONE);
        due("42: below 0 lumps", green.seen(0, 0, -1, true), NONE);
        due("8 of 50: three are seen", green.about(8), 3);
        for (int i = 3; i < 30; i++) {
            due("42: seen", green.seen(14, 0, 0, true), i);
        }
        due("42: 30 are seen", green.seen(14, 0, 0, true), NONE);
        for (int i = 0; i < 98; i++) {
            green.later(1000);
        }
        due("44: near the end", green.about(9), 99010);
        due("44: above 100,000", green.later(991), NONE);
        due("44: 100,000", green.later(990), 100000);
        due("44: no later", green.later(1), NONE);
        due("44: at the end", green.later(0), 100000);
        due("45: without people", new NettleGreen().fits(0), 0);
        due("46: without people", new NettleGreen().sure(0, 0), NONE);
    }

    private static void promise47() {
        // a is stung by how firm c was, halved; b by whether he is firmer than 9; c not at all.
        NettleGreen green = told("person a firm 0;person b firm 1;person c firm 2;meet a c on 0;meet b c on 1;"
            + "lumps (own=0)*other/2+(own=1)*(other>9)*9;");
        due("47: behind 0 days the first", green.ask(0, 0, 0), 0);
        due("47: behind 0 days all are left", green.ask(0, 1, 0), 31);
        due("47: behind 1 day a", green.ask(1, 0, 0), 0);
        due("47: behind 1 day two are left", green.ask(1, 1, 0), 2);
        due("47: 14 days", green.ask(14, 1, 0), 2);
        due("47: 15 days", green.ask(15, 0, 0), NONE);
        due("47: below 0 days", green.ask(-1, 0, 0), NONE);
        due("47: another what", green.ask(1, 2, 0), NONE);
        due("47: another what", green.ask(1, -1, 0), NONE);
        due("42: b was sore", green.seen(2, 1, 9, true), 0);
        due("45: 10 .. 30", green.fits(0), 21);
        due("42: a had 9 or 10 or more", green.seen(1, 0, 5, true), 1);
        due("45: still", green.fits(0), 21);
        due("42: but not 6", green.seen(1, 0, 6, false), 2);
        due("45: 10 and 11", green.fits(0), 2);
        due("47: nobody tells them apart", green.ask(14, 1, 0), 2);
        due("47: without people", new NettleGreen().ask(0, 0, 0), NONE);
    }

    private static void promises48And49() {
        NettleGreen green = told(GREEN);
        due("48: the start", green.image(0), 0);
        green.day();
        green.forbid(2);
        due("48: behind a day", green.image(2), 1);
        green.day();
        green.lesson(1);
        due("48: no such box", green.image(3), NONE);
        due("48: no such box", green.image(-1), NONE);
        due("49: nothing was", green.back(1), NONE);
        due("49: no such box", green.back(3), NONE);
        due("49: no such box", green.back(-1), NONE);
        due("49: acts stay", green.about(6), 4);
        due("49: behind a day", green.back(2), 1);
        due("49: no acts", green.about(6), 0);
        due("49: lumps", green.person(0, 2), 6);
        due("49: firm", green.person(2, 0), 0);
        due("49: forbidden", green.about(3), 4);
        due("49: seed", green.about(5), 771);
        due("49: nothing to undo", green.undo(), false);
        green.day();
        green.undo();
        due("49: the start", green.back(0), 0);
        due("49: nothing to redo", green.redo(), false);
        due("49: lumps", green.person(0, 2), 2);
        due("49: firm", green.person(0, 0), 5);
        due("49: forbidden", green.about(3), 0);
        green.day();
        due("48: written again", green.image(0), 1);
        green.day();
        due("49: the later one", green.back(0), 1);
        due("49: once more", green.back(2), 1);
        green.lesson(0);
        due("49: as it was kept", green.back(2), 1);
        due("49: firm", green.person(0, 0), 8);
    }

    private static void promise50() {
        NettleGreen green = told(GREEN + "lumps (9 - own) * 1;");
        green.day();
        green.forbid(1);
        green.lesson(0);
        green.undo();
        green.seen(0, 0, 0, true);
        green.seen(0, 0, 0, true);
        green.untell(0);
        green.later(4);
        green.rounds(0, 1);
        green.feed(0, 0, 0, 0, 0);
        green.end(9);
        int[] want = {3, 3, 1, 2, 1, 771, 2, 1, 2, 4, 9, 4, 2, 20, 50};
        for (int what = 0; what < want.length; what++) {
            due("50: about(" + what + ")", green.about(what), want[what]);
        }
        due("50: another what", green.about(15), NONE);
        due("50: another what", green.about(-1), NONE);
        due("50: another what", green.about(MIN), NONE);
        due("50: another what", green.about(MAX), NONE);
    }
}
