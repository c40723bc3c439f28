/**
 * The document's boundaries, sentence by sentence: the least and the most that goes, the first that does not, what is
 * empty, full, or comes round. Calls that are refused have a test of their own, RefusedTest; faults of texts, FaultTest.
 */
public final class BoundaryTest {
    private static final Check CHECK = new Check("BoundaryTest");
    private static final int NONE = NettleGreen.NONE;
    private static final int MIN = Integer.MIN_VALUE;
    private static final int MAX = Integer.MAX_VALUE;
    private static final String SIX =
        "person a firm 1;person b firm 1;person c firm 1;person d firm 1;person e firm 1;person f firm 1;";

    public static void main(String[] args) {
        textAtMost1600();
        asManyAsMayBeTold();
        numbersAtTheirEnds();
        abedByAsMany();
        daysOfTheWeek();
        abedWithinADay();
        lumpsOfATouch();
        ninetyNineAtMost();
        aheadOfThisMeeting();
        wrappingInts();
        divisionsCutAndByZero();
        truthOfNumbers();
        formulaAtItsLimits();
        learning();
        roundsComeRound();
        cooling();
        flaresByTheSeed();
        lessons();
        fortyActs();
        beyondTheLastDay();
        peaceAtItsEnds();
        roundsAtTheirEnds();
        gripAtItsEnds();
        pupilAtItsEnds();
        eveningsAtTheirEnds();
        rumourAtItsEnds();
        mannersAtTheirEnds();
        duelAtItsEnds();
        scourgeAndRelief();
        oddsAtTheirEnds();
        greatestAndUncared();
        whatLiesThere();
        seenAtItsEnds();
        knownInTwoTimes();
        askAtItsEnds();
        images();
        CHECK.end();
    }

    private static void due(String what, long got, long want) {
        CHECK.due(what, got, want);
    }

    private static NettleGreen told(String text) {
        return CHECK.told(text);
    }

    private static void days(NettleGreen green, int n) {
        for (int i = 0; i < n; i++) {
            green.day();
        }
    }

    private static String filled(String text, String filler, int length) {
        StringBuilder all = new StringBuilder(text);
        while (all.length() < length) {
            all.append(filler);
        }
        all.setLength(length);
        return all.toString();
    }

    // "A HAMLET is a text of at most 1,600 bytes (empty at first)"; "the end: the text's length".
    private static void textAtMost1600() {
        NettleGreen green = told(filled("bed 3;", " ", 1600));
        due("1,600 bytes are read", green.about(13), 3);
        green = told(filled("", "\n", 1594) + "bed 4;");
        due("the last of 1,600 bytes is read", green.about(13), 4);
        Check.put(green, filled("bed 3;bed", " ", 1600));
        due("a fault ahead of 1,600 bytes", green.hamlet(), NONE);
        due("its place", green.fault(1), 6);
        Check.put(green, filled("bed 5", " ", 1600));
        due("a fault at the end of 1,600 bytes", green.hamlet(), NONE);
        due("its kind", green.fault(0), 2);
        due("its place is the length", green.fault(1), 1600);
        Check.put(green, filled("bed 5;", " ", 1599) + "?");
        due("a fault in the last byte", green.hamlet(), NONE);
        due("its kind", green.fault(0), 1);
        due("its place", green.fault(1), 1599);
        Check.put(green, "bed 5");
        due("what lay behind the tape's end is no text", green.hamlet(), NONE);
        due("its place is the length", green.fault(1), 5);
        Check.put(green, "bed 5x");
        green.end(5);
        due("nor is a letter behind it directly behind the number", green.hamlet(), NONE);
        due("its kind", green.fault(0), 2);
        due("its place is the length", green.fault(1), 5);
        for (String last : new String[] {"bed 5", "bed", "person a", "lumps (", "lumps 1+", "lumps not"}) {
            Check.put(green, filled("", " ", 1600 - last.length()) + last);
            due("1,600 bytes that end with " + last, green.hamlet(), NONE);
            due("its kind", green.fault(0), 2);
            due("its place is the length", green.fault(1), 1600);
        }
        due("an empty text", green.hamlet(), 0);
        due("its fault", green.fault(0), 0);
        due("its place", green.fault(1), NONE);
        due("bed as not told", green.about(13), 40);
        Check.put(green, "bed 7;");
        due("end(0)", green.end(0), 0);
        due("a text cut to nothing", green.hamlet(), 0);
        due("bed as not told", green.about(13), 40);
    }

    // "At most 6 PEOPLE .., 9 MEETINGS .., 2 BROTHERS .., a ROUND of 1 to 6 ..; lumps, bed, flares, draw once each".
    private static void asManyAsMayBeTold() {
        StringBuilder text = new StringBuilder();
        for (int i = 0; i < 6; i++) {
            text.append("person ").append("abcdefg".charAt(i)).append("bcdefgh firm ").append(i + 25)
                .append(" learns ").append(i + 4).append(" lumps ").append(i + 94).append(';');
        }
        for (int i = 0; i < 9; i++) {
            text.append("meet ").append("abcdef".charAt(i % 6)).append("bcdefgh ").append("abcdef".charAt((i + 1 + i / 6) % 6))
                .append("bcdefgh on ").append(i % 7).append(';');
        }
        String all = "abcdefgh bbcdefgh cbcdefgh dbcdefgh ebcdefgh fbcdefgh";
        text.append("brother x cools 20 round ").append(all).append(";brother y cools 1 round fbcdefgh;bed 99;flares 100;draw 999;lumps 1");
        for (int i = 0; i < 29; i++) {
            text.append("+1");
        }
        NettleGreen green = told(text.append(';').toString());
        int[] about = {6, 9, 2, 0, 0, 999, 0, 0, 0, 0, 0, 30, 0, 99, 100};
        for (int what = 0; what < about.length; what++) {
            due("all that may be told, about " + what, green.about(what), about[what]);
        }
        for (int i = 0; i < 6; i++) {
            due("the most people, firm of " + i, green.person(i, 0), i + 25);
            due("the most people, learns of " + i, green.person(i, 1), i + 4);
            due("the most people, lumps of " + i, green.person(i, 2), i + 94);
            due("the most people, abed " + i, green.person(i, 3), i == 5 ? 1 : 0);
            due("the most in a round, place " + i, green.round(0, i), i);
        }
        for (int i = 0; i < 9; i++) {
            due("the most meetings, first of " + i, green.meeting(i, 0), i % 6);
            due("the most meetings, other of " + i, green.meeting(i, 1), (i + 1 + i / 6) % 6);
            due("the most meetings, day of " + i, green.meeting(i, 2), i % 7);
        }
        due("no seventh place", green.round(0, 6), NONE);
        due("the second brother cools", green.brother(1, 0), 1);
        due("a round of one", green.brother(1, 1), 1);
        due("who is in it", green.round(1, 0), 5);
        due("no second place", green.round(1, 1), NONE);
        due("no seventh person", green.person(6, 0), NONE);
        due("no tenth meeting", green.meeting(9, 0), NONE);
        due("no third brother", green.brother(2, 0), NONE);
        due("the ninth meeting is the highest bit", green.forbid(8), 256);
    }

    // "firm 0 .. 30; learns 0 .. 9, lumps 0 .. 99, 0 both if not told"; "bed (1 .. 99; 40), flares (0 .. 100 of 100; 0)".
    private static void numbersAtTheirEnds() {
        NettleGreen green = told("person a firm 0;person b firm 30 learns 9 lumps 99;person c firm 0030 learns 0009 lumps 0099;");
        int[][] want = {{0, 0, 0, 0}, {30, 9, 99, 1}, {30, 9, 99, 1}};
        for (int i = 0; i < 3; i++) {
            for (int what = 0; what < 4; what++) {
                due("person " + i + " " + what, green.person(i, what), want[i][what]);
            }
        }
        due("bed if not told", green.about(13), 40);
        due("flares if not told", green.about(14), 0);
        due("draw if not told", green.about(5), 0);
        due("units if not told", green.about(11), 0);
        green = told("bed 1;flares 0;draw 0;");
        due("bed at least", green.about(13), 1);
        green = told("bed 99;flares 100;draw 999;");
        due("bed at most", green.about(13), 99);
        due("flares at most", green.about(14), 100);
        due("draw at most", green.about(5), 999);
        green = told("person a firm 1;brother x cools 1 round a;brother y cools 20 round a;");
        due("cools at least", green.brother(0, 0), 1);
        due("cools at most", green.brother(1, 0), 20);
    }

    // "He is ABED if he has as many LUMPS as bed tells, or more."
    private static void abedByAsMany() {
        NettleGreen green = told("person a firm 9;person b firm 9 lumps 1;bed 1;");
        due("bed 1: who has one", green.abed(), 2);
        due("bed 1: who has none", green.person(0, 3), 0);
        green = told("person a firm 9 lumps 98;person b firm 9 lumps 99;bed 99;");
        due("bed 99: who has 99", green.abed(), 2);
        due("felled now", green.felled(1), 0);
        due("not felled", green.felled(0), NONE);
        green = told("person a firm 1 lumps 39;person b firm 1 lumps 40;meet a b on 0;brother t cools 1 round b;");
        due("as many as bed tells: no meeting", green.due(), 0);
        due("a day without it", green.day(), 0);
        due("one less: he is up", green.abed(), 0);
        days(green, 6);
        due("and both meet", green.due(), 1);
    }

    // "A MEETING takes place on days whose rest by 7 is what it tells (day 0 is the first one)".
    private static void daysOfTheWeek() {
        StringBuilder text = new StringBuilder("person a firm 9;person b firm 9;");
        for (int on = 0; on < 7; on++) {
            text.append("meet a b on ").append(on).append(';');
        }
        NettleGreen green = told(text.toString());
        for (int day = 0; day < 22; day++) {
            due("due on day " + day, green.due(), 1 << day % 7);
            for (int on = 0; on < 7; on++) {
                due("next on " + on + " from day " + day, green.next(on), (on - day % 7 + 7) % 7 + 1);
            }
            due("met on day " + day, green.day(), 1 << day % 7);
        }
    }

    // "if it is not FORBIDDEN .. and neither of both is ABED then": by what earlier meetings of that day have done.
    private static void abedWithinADay() {
        NettleGreen green = told("person a firm 9;person b firm 0;person c firm 9;meet a b on 0;meet b c on 0;meet c b on 0;"
            + "bed 9;brother t cools 9 round b;");
        due("due, each by itself", green.due(), 7);
        due("met", green.day(), 1);
        due("the brother comes behind the meetings", green.person(1, 2), 0);
        due("the next day nobody is abed", green.abed(), 0);
        green = told("person a firm 9;person b firm 0;person c firm 9;meet a b on 0;meet b c on 0;bed 10;");
        due("one lump less than bed: both meetings", green.day(), 3);
        due("18 by both", green.person(1, 2), 18);
        green = told("person a firm 9;person b firm 9 lumps 8;meet a b on 1;bed 9;flares 100;");
        green.day();
        due("abed by a flare", green.abed(), 2);
        due("so they do not meet", green.due(), 0);
        due("nor on that day", green.day(), 0);
        green = told("person a firm 9;person b firm 9 lumps 9;meet a b on 1;meet b a on 1;bed 9;brother t cools 1 round b a;");
        green.forbid(0);
        green.day();
        due("cooled by one and up: the one that is not forbidden", green.day(), 2);
    }

    private static int touched(String formula, int firmA, int firmB, int sore, int days) {
        NettleGreen green = told("person a firm " + firmA + " lumps " + sore + ";person b firm " + firmB
            + ";meet a b on 6;lumps " + formula + ";bed 99;");
        days(green, days);
        return green.touch(0, 0);
    }

    private static void formula(String formula, int want) {
        due("lumps " + formula, touched(formula, 4, 7, 13, 0), want);
    }

    // "9 - own, if it is not told"; "0 at least, 20 at most".
    private static void lumpsOfATouch() {
        for (int firm = 0; firm <= 30; firm++) {
            NettleGreen green = told("person a firm " + firm + ";person b firm 30;meet a b on 0;");
            due("not told, firm " + firm, green.touch(0, 0), Math.max(0, 9 - firm));
        }
        formula("0", 0);
        formula("1", 1);
        formula("0-1", 0);
        formula("0-9999*9999", 0);
        formula("19", 19);
        formula("20", 20);
        formula("21", 20);
        formula("9999", 20);
        formula("2047*1024*1024", 20);
        formula("2048*1024*1024", 0);
    }

    // "(he has 99 at most)"; touch tells "without the bound of 99".
    private static void ninetyNineAtMost() {
        for (int sore = 77; sore <= 98; sore++) {
            NettleGreen green = told("person a firm 1 lumps " + sore + ";person b firm 1;meet a b on 0;lumps 20;bed 99;");
            due("touch at " + sore, green.touch(0, 0), 20);
            due("will at " + sore, green.will(0, 1, 0), Math.min(99, sore + 20));
            green.day();
            due("lumps behind " + sore, green.person(0, 2), Math.min(99, sore + 20));
        }
        NettleGreen green = told("person a firm 1 lumps 98;person b firm 1 lumps 98;meet a b on 0;meet b a on 0;lumps 1;bed 99;");
        due("99 and abed, so the second one does not", green.day(), 1);
        due("hurt of two who have 99", green.hurt(60), 198);
        green = told("person a firm 0 lumps 98;person b firm 0 lumps 98;person c firm 0 lumps 98;person d firm 0 lumps 98;"
            + "person e firm 0 lumps 98;person f firm 0 lumps 98;meet a b on 0;meet c d on 0;meet e f on 0;bed 99;");
        due("hurt of six who have 99", green.hurt(1), 594);
        due("all six abed", green.abed() + green.day() * 100, 700);
        due("all six abed behind it", green.abed(), 63);
    }

    // "sore (his LUMPS, ahead of this MEETING)"; own, other as they are ahead of it; "then the one who is less FIRM ..".
    private static void aheadOfThisMeeting() {
        NettleGreen green = told("person a firm 9 lumps 3;person b firm 9 lumps 5;meet a b on 0;meet a b on 0;lumps sore;bed 99;");
        due("both meet twice", green.day(), 3);
        due("3, 6, 12", green.person(0, 2), 12);
        due("5, 10, 20", green.person(1, 2), 20);
        green = told("person a firm 2 learns 9;person b firm 7;meet a b on 0;meet b a on 0;lumps other;bed 99;");
        due("both meet twice", green.day(), 3);
        due("7 and then 7", green.person(0, 2), 14);
        due("2 and then 7", green.person(1, 2), 9);
        due("a has learnt between", green.person(0, 0), 7);
    }

    // "(day / 7; ints, wrapping; ..)"
    private static void wrappingInts() {
        String min = "2048*1024*1024";
        formula("(" + min + "<0)*9", 9);
        formula("(" + min + "-1>0)*9", 9);
        formula("(" + min + "-1+1<0)*9", 9);
        formula("(0-" + min + "=" + min + ")*9", 9);
        formula("(" + min + "*2=0)*9", 9);
        formula("(" + min + "+" + min + "=0)*9", 9);
        formula("4096*1024*1024+5", 5);
        due("what 9999 cubed wraps to", touched("9999*9999*9999/9999/9999/2", 0, 0, 0, 0),
            Math.max(0, Math.min(20, 9999 * 9999 * 9999 / 9999 / 9999 / 2)));
        for (int days : new int[] {0, 6, 7, 13, 14, 20, 21}) {
            due("week on day " + days, touched("week", 9, 9, 0, days), days / 7);
            due("day on day " + days, touched("day-3", 9, 9, 0, days), Math.max(0, Math.min(20, days - 3)));
        }
    }

    // "/ cut, % its rest, both by 0: 0"
    private static void divisionsCutAndByZero() {
        formula("7/2", 3);
        formula("10+(0-7)/2", 7);
        formula("10+7/(0-2)", 7);
        formula("(0-7)/(0-2)", 3);
        formula("7%2", 1);
        formula("10+(0-7)%2", 9);
        formula("10+7%(0-2)", 11);
        formula("10+(0-7)%(0-2)", 9);
        formula("10+7/0", 10);
        formula("10+7%0", 10);
        formula("10+0/0", 10);
        formula("10+0%0", 10);
        formula("10+7/(1-1)*5", 10);
        formula("10+own%week", 10);
        formula("10+own/day", 10);
        formula("(2048*1024*1024/(0-1)=2048*1024*1024)*8", 8);
        formula("3+2048*1024*1024%(0-1)", 3);
        formula("2048*1024*1024/2048/1024/1024+4", 3);
    }

    // "relations, and, or, not are 1 or 0, of what is not 0"
    private static void truthOfNumbers() {
        for (int a = 0; a < 3; a++) {
            for (int b = 0; b < 3; b++) {
                String left = "(" + a + "-1)";
                String right = "(" + b + "-1)";
                formula(left + "<" + right, a < b ? 1 : 0);
                formula(left + ">" + right, a > b ? 1 : 0);
                formula(left + "=" + right, a == b ? 1 : 0);
                formula("5+(" + left + "<" + right + ")", a < b ? 6 : 5);
                formula("5+(" + left + ">" + right + ")", a > b ? 6 : 5);
                formula("5+(" + left + "=" + right + ")", a == b ? 6 : 5);
                formula("5+(" + left + " and " + right + ")", a != 1 && b != 1 ? 6 : 5);
                formula("5+(" + left + " or " + right + ")", a != 1 || b != 1 ? 6 : 5);
                formula(left + " and " + right, a != 1 && b != 1 ? 1 : 0);
                formula(left + " or " + right, a != 1 || b != 1 ? 1 : 0);
            }
            formula("not (" + a + "-1)", a == 1 ? 1 : 0);
            formula("5*(not (" + a + "-1))", a == 1 ? 5 : 0);
        }
        formula("9 and 9 and 9", 1);
        formula("0 or 0 or 9", 1);
        formula("9 and 9 and 0", 0);
        formula("0 or 0 or 0", 0);
    }

    // "30 in one e (a unit ( e ), or a one behind not, within 6 others at most)"
    private static void formulaAtItsLimits() {
        formula("(((((((3)))))))", 3);
        formula("not not not not not not not 3", 0);
        formula("not not not not not not 3", 1);
        formula("(not (not (not (3))))", 0);
        String sevenNots = "not not not not not not not ";
        StringBuilder text = new StringBuilder(sevenNots + "own");
        for (int i = 1; i < 30; i++) {
            text.append(i % 2 == 0 ? " and " : " or ").append(sevenNots).append("own");
        }
        formula(text + "", 0);
        formula((text + "").replace("own", "week"), 1);
        formula("1+(1+(1+(1+(1+(1+(1+(1+1+1+1+1+1+1+1+1+1+1+1+1+1+1)))))))", 20);
        formula("9+(2-(2+(2-(2+(2-(2+(2*2/2%7+0+0+0+0+0+0+0+0+0)))))))", 7);
        NettleGreen green = told("lumps 1+(1+(1+(1+(1+(1+(1+(1+1+1+1+1+1+1+1+1+1+1+1+1+1+1+1)))))));");
        due("brackets and all in them are 30 units", green.about(11), 30);
        green = told("lumps (((((((3)))))));");
        due("seven brackets and a number", green.about(11), 8);
        green = told("lumps 3;");
        due("one unit", green.about(11), 1);
    }

    // "the one who is less FIRM (none, if both are alike) is more so by as much as he learns, but not more than the other"
    private static void learning() {
        int[][] cases = {{0, 9, 0, 0}, {0, 9, 1, 1}, {0, 9, 8, 8}, {0, 9, 9, 9}, {1, 9, 8, 9}, {1, 9, 9, 9}, {8, 9, 9, 9},
            {9, 9, 9, 9}, {10, 9, 9, 10}, {21, 30, 9, 30}, {29, 30, 9, 30}, {30, 30, 9, 30}, {0, 30, 9, 9}, {0, 1, 9, 1}};
        for (int[] c : cases) {
            String pair = "person a firm " + c[0] + " learns " + c[2] + ";person b firm " + c[1] + ";";
            NettleGreen green = told(pair + "meet a b on 0;");
            due(pair + " ahead", green.firm(0, 1), c[3]);
            green.day();
            due(pair + " the first one", green.person(0, 0), c[3]);
            due(pair + " the other one stays", green.person(1, 0), c[1]);
            green = told(pair + "meet b a on 0;");
            green.day();
            due(pair + " told the other way round", green.person(0, 0), c[3]);
        }
        NettleGreen green = told("person a firm 3 learns 9;person b firm 9 lumps 40;meet a b on 0;");
        green.day();
        due("no meeting, no learning", green.person(0, 0), 3);
    }

    // "the one of his ROUND whose place in it (0, 1, ..) is the day's rest by how many are in it"
    private static void roundsComeRound() {
        for (int size = 1; size <= 6; size++) {
            String names = "f e d c b a".substring(0, 2 * size - 1);
            NettleGreen green = told(SIX.replace("firm 1", "firm 1 lumps 90") + "bed 99;brother t cools 1 round " + names + ";");
            int[] lumps = {90, 90, 90, 90, 90, 90};
            for (int day = 0; day < 15; day++) {
                green.day();
                lumps[5 - day % size]--;
                for (int i = 0; i < 6; i++) {
                    due("a round of " + size + " behind day " + day + ", " + i, green.person(i, 2), lumps[i]);
                }
            }
        }
    }

    // "he has as many LUMPS less as the BROTHER cools (0 at least)"; a call "as in his ROUND".
    private static void cooling() {
        for (int lumps = 0; lumps <= 22; lumps++) {
            NettleGreen green = told("person a firm 1 lumps " + lumps + ";person b firm 1;brother t cools 20 round a;");
            due("called to " + lumps, green.call(0, 0), lumps == 0 ? NONE : Math.max(0, lumps - 20));
            due("an act, if he had some", green.about(6), lumps == 0 ? 0 : 1);
            green.undo();
            green.day();
            due("cooled from " + lumps, green.person(0, 2), Math.max(0, lumps - 20));
        }
        NettleGreen green = told("person a firm 1 lumps 99;person b firm 1 lumps 1;brother s cools 1 round a;brother t cools 20 round a;");
        green.day();
        due("two brothers at one", green.person(0, 2), 78);
        due("called to one who is in no round", green.call(1, 1), 0);
    }

    // "the SEED .. becomes its 137-fold and 71 more, modulo 1,000, and if its rest by 100 is less than flares tells .."
    private static void flaresByTheSeed() {
        for (int draw : new int[] {0, 1, 6, 7, 77, 500, 998, 999}) {
            int seed = (draw * 137 + 71) % 1000;
            for (int flares : new int[] {0, 1, seed % 100, seed % 100 + 1, 99, 100}) {
                NettleGreen green = told("person a firm 1 lumps 5;draw " + draw + ";flares " + flares + ";");
                int want = 5 + (seed % 100 < flares ? 1 : 0);
                due("will, draw " + draw + ", flares " + flares, green.will(0, 1, 1), want);
                due("will without flares", green.will(0, 1, 0), 5);
                green.day();
                due("draw " + draw + ", flares " + flares, green.person(0, 2), want);
                due("seed behind draw " + draw, green.about(5), seed);
            }
        }
        NettleGreen green = told("person a firm 1 lumps 99;person b firm 1;person c firm 1 lumps 98;flares 100;bed 99;");
        green.day();
        due("99 at most", green.person(0, 2), 99);
        due("none without lumps", green.person(1, 2), 0);
        due("98 and one", green.person(2, 2), 99);
        due("two draws: 71, 798", green.about(5), 798);
        green = told("person a firm 1 lumps 1;brother t cools 1 round a;flares 100;draw 5;");
        green.day();
        due("cooled to none ahead of the draw", green.person(0, 2), 0);
        due("so the seed stays", green.about(5), 5);
        green = told("person a firm 8;person b firm 9;meet a b on 0;flares 100;draw 5;");
        green.day();
        due("a lump of that day may flare", green.person(0, 2), 2);
        due("one draw", green.about(5), 756);
    }

    // "a LESSON (one is more FIRM by 1, 30 at most)"
    private static void lessons() {
        NettleGreen green = told("person a firm 0;person b firm 29;");
        for (int firm = 1; firm <= 30; firm++) {
            due("lesson", green.lesson(0), firm);
        }
        due("30 already", green.lesson(0), NONE);
        due("the last one", green.lesson(1), 30);
        due("30 already", green.lesson(1), NONE);
        due("31 acts", green.about(6), 31);
        due("undone", green.undo() ? green.person(1, 0) : NONE, 29);
        due("again", green.lesson(1), 30);
    }

    // "UNDO takes back the latest ACT that was not, REDO .. (till another ACT); 40 at most are kept, the oldest go."
    private static void fortyActs() {
        for (int acts = 38; acts <= 43; acts++) {
            NettleGreen green = told("person a firm 1 lumps 1;draw 3;");
            days(green, acts);
            int kept = Math.min(40, acts);
            due(acts + " acts, kept", green.about(6), kept);
            for (int i = 1; i <= kept; i++) {
                due("undo", green.undo() ? 1 : 0, 1);
                due("the day behind " + i + " undos", green.about(4), acts - i);
                due("left", green.about(6), kept - i);
                due("to be redone", green.about(7), i);
            }
            due("no more", green.undo() ? 1 : 0, 0);
            due("the day of the oldest", green.about(4), acts - kept);
            for (int i = 1; i <= kept; i++) {
                due("redo", green.redo() ? 1 : 0, 1);
            }
            due("the day of the latest", green.about(4), acts);
            due("no more", green.redo() ? 1 : 0, 0);
        }
        NettleGreen green = told("person a firm 1 lumps 1;draw 3;");
        days(green, 40);
        green.undo();
        due("another act behind 39", green.lesson(0), 2);
        due("40 are kept", green.about(6), 40);
        due("none is redone", green.about(7), 0);
        due("redo", green.redo() ? 1 : 0, 0);
        green.lesson(0);
        due("still 40", green.about(6), 40);
        for (int i = 0; i < 40; i++) {
            green.undo();
        }
        due("the oldest is gone", green.about(4), 1);
        due("all 40 can be redone", green.about(7), 40);
        due("an act instead", green.lesson(0), 2);
        due("is the only one", green.about(6), 1);
        due("and none is redone", green.about(7), 0);
    }

    // "NONE, doing nothing, behind 999 of them"; "what lies ahead goes on beyond day 999, too".
    private static void beyondTheLastDay() {
        NettleGreen green = told("person a firm 8;person b firm 9;meet a b on 6;meet a b on 0;lumps day>1000;");
        days(green, 998);
        due("day 998", green.about(4), 998);
        due("the 999th", green.day(), 0);
        due("behind 999", green.day(), NONE);
        due("day 1,000 rests 6: the second day from now", green.next(0), 2);
        due("day 1,001: the third", green.next(1), 3);
        due("lumps by day 1,000", green.will(0, 2, 0), 0);
        due("lumps by day 1,001", green.will(0, 3, 0), 1);
        due("with flares", green.will(0, 60, 1), 17);
        due("hurt of 60 days", green.hurt(60), 34);
        due("undone", green.undo() ? green.about(4) : NONE, 998);
        due("and done again", green.day(), 0);
        due("a lesson on the last day", green.lesson(0), 9);
        due("the day in a box", green.image(0), 999);
        due("and back", green.back(0), 999);
        due("still the last", green.day(), NONE);
    }

    // PEACE: "behind each of 0 .. n DAYS nobody is ABED; of like ones the least set as bits"
    private static void peaceAtItsEnds() {
        NettleGreen green = told("person a firm 8;person b firm 9;meet a b on 0;meet a b on 6;bed 1;");
        due("0 days", green.peace(0, 1), 0);
        due("1 day", green.peace(1, 1), 1);
        due("6 days", green.peace(6, 1), 1);
        due("7 days", green.peace(7, 1), 3);
        due("14 days", green.peace(14, 0), 2);
        green = told("person a firm 8;person b firm 9;meet a b on 0;meet a b on 1;meet a b on 2;bed 2;");
        due("two of three, the least set", green.peace(3, 1), 3);
        green.forbid(1);
        due("besides the forbidden one", green.peace(3, 1), 1);
        green.forbid(0);
        due("none more", green.peace(3, 0), 0);
        due("none more", green.peace(3, 1), 0);
        // Without the first two, or without the third alone, he has 10: the fewest, though not the least set.
        green = told("person a firm 0;person b firm 5;person c firm 10;meet a b on 0;meet a b on 1;meet a c on 2;lumps other;bed 11;");
        due("the fewest go ahead of the least set", green.peace(3, 1), 4);
        due("the fewest", green.peace(3, 0), 1);
        // Nobody is abed behind the day itself: the brother has come by then.
        green = told("person a firm 8;person b firm 9;meet a b on 0;bed 1;brother t cools 1 round a;");
        due("cooled on the same day", green.peace(14, 0), 0);
        green = told(SIX + "meet a b on 0;meet b c on 0;meet c d on 0;meet d e on 0;meet e f on 0;meet f a on 0;meet a c on 0;"
            + "meet b d on 0;meet c e on 0;lumps 1;bed 1;");
        due("all nine", green.peace(1, 0), 9);
        due("all nine, as bits", green.peace(1, 1), 511);
        green = told("person a firm 8 lumps 1;person b firm 9;meet a b on 0;bed 1;brother t cools 1 round a;");
        due("by none: he is abed now", green.peace(0, 0), NONE);
        due("by none", green.peace(14, 1), NONE);
    }

    // ROUNDS (n 0 .. 14): "of like ones the first (by the numbers of PEOPLE)"
    private static void roundsAtTheirEnds() {
        NettleGreen green = told(SIX + "brother t cools 1 round f;brother s cools 1 round f e d c b a;");
        due("a round of one", green.rounds(0, 14), 0);
        CHECK.lies("a round of one", green, 5);
        due("a round of six, all alike", green.rounds(1, 14), 0);
        CHECK.lies("a round of six, all alike", green, 0, 1, 2, 3, 4, 5);
        due("0 days", green.rounds(1, 0), 0);
        CHECK.lies("0 days", green, 0, 1, 2, 3, 4, 5);
        green = told(SIX.replace("person a firm 1", "person a firm 1 lumps 9").replace("person f firm 1", "person f firm 1 lumps 3")
            + "brother s cools 1 round a b c d e f;");
        due("14 days", green.rounds(0, 14), 6);
        CHECK.lies("14 days: both of them in the places that come thrice", green, 0, 5, 1, 2, 3, 4);
        days(green, 5);
        // Days 5, 6, 7 are places 5, 0, 1; a has 8 left, f 3: the last place is one of those, too.
        due("from day 5 on, 3 days", green.rounds(0, 3), 9);
        CHECK.lies("from day 5 on, 3 days", green, 0, 1, 2, 3, 4, 5);
        green = told(SIX.replace("person f firm 1", "person f firm 1 lumps 3") + "brother s cools 3 round a b c d e f;");
        green.day();
        due("the second place is the first that comes", green.rounds(0, 1), 0);
        CHECK.lies("the second place", green, 0, 5, 1, 2, 3, 4);
        days(green, 4);
        due("the last place", green.rounds(0, 1), 0);
        CHECK.lies("the last place", green, 0, 1, 2, 3, 4, 5);
    }

    // GRIP: "the least FIRM (0 .. 30, in place of his) by which he is ABED behind none of 0 .. n DAYS"
    private static void gripAtItsEnds() {
        NettleGreen green = told("person a firm 30;person b firm 30;meet a b on 1;bed 9;");
        due("0 days", green.grip(0, 0), 0);
        due("1 day", green.grip(0, 1), 0);
        due("2 days", green.grip(0, 2), 1);
        due("30 days, five meetings: one lump each", green.grip(0, 30), 8);
        green = told("person a firm 0;person b firm 0;meet a b on 0;bed 1;lumps own<30;");
        due("by 30 alone", green.grip(0, 1), 30);
        green = told("person a firm 0;person b firm 0;meet a b on 0;bed 1;lumps own<31;");
        due("by none", green.grip(0, 1), NONE);
        due("but for 0 days", green.grip(0, 0), 0);
        green = told("person a firm 7 lumps 99;person b firm 0;bed 99;brother t cools 1 round a;");
        due("abed now", green.grip(0, 0), NONE);
        due("whatever comes", green.grip(0, 30), NONE);
        due("another one", green.grip(1, 30), 0);
        green = told("person a firm 9;person b firm 9;meet a b on 0;bed 9;lumps (own=0)*9;");
        due("not 0, which is the one that stings", green.grip(0, 30), 1);
    }

    // PUPIL: "(of 1; not one who is 30)"; "of like ones the first"
    private static void pupilAtItsEnds() {
        NettleGreen green = told("person a firm 30;person b firm 29;person c firm 29;");
        due("the first who is not 30", green.pupil(0, 0), 1);
        due("hurt", green.pupil(30, 1), 0);
        green.lesson(1);
        due("the next one", green.pupil(30, 0), 2);
        green.lesson(2);
        due("none", green.pupil(30, 0), NONE);
        due("none", green.pupil(30, 1), NONE);
        green = told("person a firm 29;person b firm 29;meet a b on 0;lumps (own<30)*7;");
        due("29 and one are 30", green.pupil(1, 1), 7);
        due("of like ones the first", green.pupil(1, 0), 0);
        green = told("person a firm 5;person b firm 5;meet a b on 0;lumps (own=5)*(other=5)*7+(own=6)*8;");
        due("a lesson that makes it worse", green.pupil(1, 1), 8);
    }

    // EVENINGS: "0 without PEOPLE"; six who all meet cannot be told with nine meetings, five neither, four can.
    private static void eveningsAtTheirEnds() {
        NettleGreen green = told("person a firm 1;");
        due("one alone", green.evenings(), 1);
        CHECK.lies("one alone", green, 0);
        green = told(SIX + "meet e f on 0;");
        due("the last two", green.evenings(), 2);
        CHECK.lies("the last two", green, 0, 0, 0, 0, 0, 1);
        green.forbid(0);
        due("forbidden", green.evenings(), 1);
        CHECK.lies("forbidden", green, 0, 0, 0, 0, 0, 0);
        // A wheel of five with a middle one, but for the last spoke: three are enough; c, d, e, f, b are the rim.
        green = told(SIX + "meet b c on 0;meet c d on 0;meet d e on 0;meet e f on 0;meet f b on 0;meet a b on 0;meet a c on 0;"
            + "meet a d on 0;meet a e on 0;");
        due("a wheel without a spoke", green.evenings(), 3);
        CHECK.lies("a wheel without a spoke", green, 0, 1, 2, 1, 2, 0);
        green = told(SIX + "meet a b on 0;meet a c on 0;meet a d on 0;meet b c on 0;meet b d on 0;meet c d on 0;meet a e on 0;"
            + "meet b e on 0;meet c e on 0;");
        due("four who all meet", green.evenings(), 4);
        CHECK.lies("four who all meet", green, 0, 1, 2, 3, 3, 0);
    }

    // RUMOUR: "(0: both are one)"; a chain of six is the longest way.
    private static void rumourAtItsEnds() {
        NettleGreen green = told(SIX + "meet a b on 0;meet c b on 0;meet c d on 0;meet e d on 0;meet e f on 0;");
        for (int i = 0; i < 6; i++) {
            for (int j = 0; j < 6; j++) {
                due("along a chain from " + i + " to " + j, green.rumour(i, j), Math.abs(i - j));
            }
        }
        green.forbid(2);
        due("not over the forbidden one", green.rumour(2, 3), NONE);
        due("ahead of it", green.rumour(2, 0), 2);
        due("behind it", green.rumour(3, 5), 2);
        due("both are one", green.rumour(3, 3), 0);
        due("friends of one whose meeting is forbidden", green.friends(2), 2);
        due("friends of the other one", green.friends(3), 16);
    }

    // MANNERS: "behind how many DAYS first nobody's FIRM changes in the seven DAYS behind it" (0 .. 60)
    private static void mannersAtTheirEnds() {
        for (int on = 0; on < 7; on++) {
            NettleGreen green = told("person a firm 0 learns 1;person b firm 1;meet a b on " + on + ";");
            due("one lesson on day " + on, green.manners(), on + 1);
            green = told("person a firm 0 learns 1;person b firm 9;lumps 0;meet a b on " + on + ";");
            due("the ninth on day " + (56 + on), green.manners(), 56 + on + 1 <= 60 ? 57 + on : NONE);
        }
        NettleGreen green = told("person a firm 0 learns 1;person b firm 9;lumps 0;meet a b on 4;");
        due("the ninth on day 60", green.manners(), NONE);
        green.day();
        due("a day later it is in these", green.manners(), 60);
        green = told("person a firm 0;person b firm 9;meet a b on 0;");
        due("nobody learns", green.manners(), 0);
    }

    // DUEL: "more FIRM by 5 (just in it; 30 at most)"; "1 less if he does so (also one who is 30 already)"
    private static void duelAtItsEnds() {
        // Only who is 30 gets no lumps: from 25 on five more are enough, at 30 already it costs 1 for nothing.
        for (int firm = 23; firm <= 30; firm++) {
            NettleGreen green = told("person a firm " + firm + ";person b firm 0;meet a b on 3;lumps (own<30)*(other<6)*9;");
            due("duel at " + firm, green.duel(0), 1);
            CHECK.lies("duel at " + firm, green, firm >= 25 && firm < 30 ? 1 : 0, 0);
        }
        NettleGreen green = told("person a firm 30;person b firm 30;meet a b on 3;lumps (own>30)*9+(other>30)*9;");
        due("never above 30", green.duel(0), 1);
        CHECK.lies("never above 30", green, 0, 0);
        due("nobody is firmer behind it", green.person(0, 0), 30);
        green = told("person a firm 0 lumps 99;person b firm 0 lumps 99;meet a b on 3;bed 1;");
        due("abed, and without the bound of 99", green.duel(0), 1);
        CHECK.lies("abed, and without the bound of 99", green, 1, 1);
        green = told("person a firm 0;person b firm 0;meet a b on 3;lumps 20-(own=5);");
        due("a gain of one is worth what it costs: all four", green.duel(0), 4);
        CHECK.lies("of like ones the least numbers", green, 0, 0);
        green = told("person a firm 0;person b firm 0;meet a b on 3;lumps 29-(own=5)*9;");
        due("20 at most, so nothing is won", green.duel(0), 1);
        CHECK.lies("20 at most, so nothing is won", green, 0, 0);
    }

    private static void scourgeAndRelief() {
        NettleGreen green = told("person a firm 9;");
        due("scourge: one alone", green.scourge(0), 0);
        due("scourge: hurt", green.scourge(1), 0);
        green = told("person a firm 0;person b firm 0;person c firm 0;meet b c on 6;");
        due("scourge: on the seventh day", green.scourge(0), 1);
        due("scourge: hurt of 7 days without it", green.scourge(1), 0);
        due("hurt of 7 days with it", green.hurt(7), 18);
        green = told("person a firm 0 lumps 99;person b firm 0;brother s cools 20 round a;brother t cools 1 round b;bed 99;");
        due("relief now and in seven days", green.relief(0, 1), 0);
        due("of like ones the first, for he is cooled by 20 on seven days", green.relief(0, 0), 0);
        due("relief of the other one", green.relief(1, 1), 0);
        green = told("person a firm 0;person b firm 0 lumps 99;brother s cools 13 round a;bed 99;");
        due("relief to who is not in the round", green.relief(0, 0), 1);
        due("hurt then", green.relief(0, 1), 86);
        // Who is less sore is stung the more: whoever is called to, it is worse than none.
        green = told("person a firm 9 lumps 10;person b firm 9 lumps 10;meet a b on 0;lumps 20-2*sore;brother s cools 1 round b a;");
        due("hurt of 7 days without a call", green.hurt(7), 13);
        due("relief: the first", green.relief(0, 0), 0);
        due("relief: hurt then", green.relief(0, 1), 14);
        // A call would raise a from his bed, and then he and b are stung.
        green = told("person a firm 0 lumps 9;person b firm 0;person c firm 9;meet a b on 0;bed 9;brother s cools 1 round c;");
        due("relief: to one without lumps", green.relief(0, 0), 1);
        due("relief: hurt then", green.relief(0, 1), 9);
    }

    // ODDS (n 0 .. 4), "in lowest terms (0 of 1)"
    private static void oddsAtTheirEnds() {
        for (int flares = 0; flares <= 100; flares++) {
            NettleGreen green = told("flares " + flares + ";");
            for (int n = 0; n <= 4; n++) {
                long upper = 1;
                long lower = 1;
                for (int i = 0; i < n; i++) {
                    upper *= 100 - flares;
                    lower *= 100;
                }
                long shared = java.math.BigInteger.valueOf(upper).gcd(java.math.BigInteger.valueOf(lower)).longValue();
                due("odds of " + n + " by " + flares + ", upper", green.odds(n, 0), upper / shared);
                due("odds of " + n + " by " + flares + ", lower", green.odds(n, 1), lower / shared);
            }
        }
    }

    // "The one with most LUMPS; of like ones the first"; "PEOPLE who are in no ROUND": not those of an earlier hamlet.
    private static void greatestAndUncared() {
        NettleGreen green = told(SIX.replace("firm 1", "firm 30 lumps 99") + "brother s cools 9 round a b c d e f;bed 99;");
        due("all alike: the first is the sorest", green.sorest(), 0);
        due("all alike: the first is the firmest", green.firmest(), 0);
        due("none is uncared for", green.uncared(), 0);
        due("all are abed", green.abed(), 63);
        for (int i = 0; i < 3; i++) {
            Check.put(green, "person x firm 0;person y firm 1 lumps 1;brother s cools 9 round y;");
            due("two", green.hamlet(), 2);
            due("the last is the sorest", green.sorest(), 1);
            due("the last is the firmest", green.firmest(), 1);
            due("the first is uncared for", green.uncared(), 1);
            due("hurt of two", green.hurt(0), 1);
            due("law of two", green.law(0), 0);
            due("abed of two", green.abed(), 0);
            Check.put(green, "person x firm 0;person y firm 0;");
            due("two", green.hamlet(), 2);
            due("alike: the first is the sorest", green.sorest(), 0);
            due("alike: the first is the firmest", green.firmest(), 0);
            due("both are uncared for", green.uncared(), 3);
        }
        green = told(SIX + "brother s cools 9 round c;brother t cools 9 round e c;");
        due("in no round of two", green.uncared(), 43);
        green = told(SIX);
        due("without brothers", green.uncared(), 63);
        green = told("person a firm 0;person b firm 30 lumps 98;person c firm 30 lumps 99;person d firm 29 lumps 99;");
        due("the first of two who have 99", green.sorest(), 2);
        due("the first of two who are 30", green.firmest(), 1);
    }

    // "(behind NONE: nothing)"; "(.. behind 0, NONE: nothing)"; "-2 if there is none such".
    private static void whatLiesThere() {
        NettleGreen green = told(SIX + "meet a b on 0;lumps (own=1 and other=6)*10+(own=6 and other=6)*0;brother t cools 1 round f e;");
        CHECK.lies("nothing at first", green);
        green.evenings();
        CHECK.lies("six groups", green, 0, 1, 0, 0, 0, 0);
        green.rounds(0, 3);
        CHECK.lies("a round of two is not followed by what lay there", green, 4, 5);
        green.evenings();
        green.duel(0);
        CHECK.lies("two ways are not followed by what lay there", green, 0, 0);
        due("lies below 0", green.lies(-1), -2);
        green.evenings();
        due("a duel of none", green.duel(1), NONE);
        CHECK.lies("behind NONE", green);
        green.evenings();
        due("a round of none", green.rounds(1, 3), NONE);
        CHECK.lies("behind NONE", green);
        green.evenings();
        Check.put(green, "bed");
        green.hamlet();
        CHECK.lies("behind a fault", green, 0, 1, 0, 0, 0, 0);
        green.hamlet();
        CHECK.lies("behind a hamlet", green);
        green.evenings();
        CHECK.lies("without people", green);
        green = told("person a firm 0;person b firm 5;meet a b on 5;"
            + "lumps (own=0 and other=5)*10+(own=5 and other>0)*5+(own=10 and other=0)*5;");
        green.evenings();
        due("no rest", green.duel(0), 0);
        CHECK.lies("behind 0", green);
    }

    // "SEEN (DAYS 0 .. 14, LUMPS 0 .. 99)": "that behind so many DAYS one had so many LUMPS at least, or had not"
    private static void seenAtItsEnds() {
        String pair = "person a firm 9 lumps 99;person b firm 4 lumps 3;meet a b on 0;bed 40;";
        NettleGreen green = told(pair);
        due("0 days, 99 lumps", green.seen(0, 0, 99, true), 0);
        due("all fit", green.fits(0), 31);
        due("3 at least", green.seen(0, 1, 3, true), 1);
        due("not 4", green.seen(0, 1, 4, false), 2);
        due("0 at least, behind 14 days", green.seen(14, 1, 0, true), 3);
        due("all fit still", green.fits(0), 31);
        due("not 0 at least: that is never so", green.seen(14, 1, 0, false), 4);
        due("none fits", green.fits(0), 0);
        due("least of none", green.sure(0, 0), NONE);
        due("greatest of none", green.sure(1, 0), NONE);
        // They meet on days 6 and 13: the second time has been behind 14 days, not behind 13.
        green = told("person a firm 30;person b firm 4;meet a b on 6;lumps 9-own;");
        due("behind 6 days nothing", green.seen(6, 1, 1, false), 0);
        due("all fit", green.fits(0), 31);
        due("behind 13 days one meeting: 9 at most", green.seen(13, 1, 10, false), 1);
        due("all fit", green.fits(0), 31);
        due("behind 14 days two of them: 18 by 0 alone", green.seen(14, 1, 18, true), 2);
        due("0 alone fits", green.fits(0), 1);
        due("least", green.sure(0, 0), 0);
        due("greatest", green.sure(1, 0), 0);
        green = told("person a firm 3;person b firm 4;meet a b on 0;lumps own;");
        due("only 20 and more sting by 20", green.seen(1, 1, 20, true), 0);
        due("eleven", green.fits(0), 11);
        due("least", green.sure(0, 0), 20);
        due("greatest", green.sure(1, 0), 30);
        green = told("person a firm 7 lumps 2;");
        due("one alone", green.fits(0), 31);
        due("one alone who was not so", green.seen(0, 0, 3, true), 0);
        due("none", green.fits(0), 0);
        green = told("person a firm 9;person b firm 4;meet a b on 0;flares 100;");
        green.lesson(1);
        green.forbid(0);
        days(green, 3);
        due("as told, nothing done, no flares", green.seen(8, 1, 18, true), 0);
        due("0 alone", green.fits(0), 1);
        due("0 alone", green.sure(1, 0), 0);
    }

    // "As known at k that counts that was TOLD at k or before, not UNTOLD at k or before."
    private static void knownInTwoTimes() {
        NettleGreen green = told("person a firm 30;person b firm 4;meet a b on 0;");
        due("later by 0", green.later(0), 0);
        due("later by 1000", green.later(1000), 1000);
        due("b had 9: he was 0", green.seen(1, 1, 9, true), 0);
        green.later(7);
        due("untold at 1007", green.untell(0) ? 1 : 0, 1);
        for (int k : new int[] {MIN, -1, 0, 999}) {
            due("as known at " + k, green.fits(k), 31);
        }
        for (int k : new int[] {1000, 1001, 1006}) {
            due("as known at " + k, green.fits(k), 1);
            due("greatest, as known at " + k, green.sure(1, k), 0);
            due("one is left, as known at " + k, green.ask(1, 1, k), 1);
        }
        for (int k : new int[] {1007, 1008, 100000, MAX}) {
            due("as known at " + k, green.fits(k), 31);
            due("greatest, as known at " + k, green.sure(1, k), 30);
            due("22 are left, as known at " + k, green.ask(1, 1, k), 22);
        }
        due("told and untold at once", green.seen(1, 1, 9, true), 1);
        due("untold at 1007", green.untell(1) ? 1 : 0, 1);
        due("it never counted", green.fits(1007), 31);
        due("nor before", green.fits(1006), 1);
        Check.put(green, "person a firm 1;");
        green.hamlet();
        due("the time stays", green.about(9), 1007);
        due("numbers begin anew", green.seen(0, 0, 1, true), 0);
        due("it is told now", green.fits(1006), 31);
        due("and counts now", green.fits(1007), 0);
        green.later(1000);
        due("and untold", green.untell(0) ? 1 : 0, 1);
        due("not at once before", green.fits(2006), 0);
        due("from now on", green.fits(2007), 31);
    }

    // ASK: "would leave the fewest of these at the most; of like ones the first"
    private static void askAtItsEnds() {
        NettleGreen green = told("person a firm 9 lumps 2;");
        due("one alone", green.ask(0, 0, 0), 0);
        due("31 are left", green.ask(14, 1, 0), 31);
        green = told("person a firm 9 lumps 99;person b firm 9;meet a b on 0;bed 99;");
        due("one who has 99", green.ask(0, 0, 0), 0);
        due("31 are left", green.ask(0, 1, 0), 31);
        green = told(SIX + "meet a f on 6;lumps (own=1)*other/2;");
        due("behind 6 days nobody tells: the first", green.ask(6, 0, 0), 0);
        due("behind 6 days all are left", green.ask(6, 1, 0), 31);
        due("behind 7 days a tells", green.ask(7, 0, 0), 0);
        due("behind 7 days two are left", green.ask(7, 1, 0), 2);
        green = told(SIX + "meet e f on 0;meet f e on 0;lumps (own=1)*other/2;");
        due("behind 1 day e tells, not the first", green.ask(1, 0, 0), 4);
        green = told(SIX + "meet a f on 0;lumps own;");
        due("the last one himself", green.ask(1, 0, 0), 5);
        due("20 at most: eleven are left", green.ask(1, 1, 0), 11);
        green.seen(1, 5, 20, false);
        due("0 .. 19: one is left", green.ask(1, 1, 0), 1);
        green.seen(1, 5, 20, true);
        due("none fits", green.ask(1, 0, 0), NONE);
        due("none fits", green.ask(1, 1, 0), NONE);
        due("but as known ahead of all", green.ask(1, 1, -1), 11);
    }

    // "kept in a BOX 0 .. 2: the day"; "All is as it was kept (no ACTS are kept then)".
    private static void images() {
        NettleGreen green = told(SIX + "meet a b on 0;flares 50;draw 5;");
        for (int box = 0; box < 3; box++) {
            due("an empty box " + box, green.back(box), NONE);
            days(green, 1);
            due("kept in " + box, green.image(box), box + 1);
        }
        for (int box = 2; box >= 0; box--) {
            due("back from " + box, green.back(box), box + 1);
            due("no acts", green.about(6) + green.about(7), 0);
        }
        green.lesson(3);
        green.undo();
        due("one to redo", green.about(7), 1);
        due("an image is no act", green.image(1), 1);
        due("one to redo still", green.about(7), 1);
        due("back", green.back(1), 1);
        due("none to redo", green.about(7), 0);
        Check.put(green, "bed");
        green.hamlet();
        due("a fault leaves the boxes", green.back(0), 1);
        green.hamlet();
        for (int box = 0; box < 3; box++) {
            due("a new hamlet empties " + box, green.back(box), NONE);
        }
        due("kept without people", green.image(2), 0);
        green.day();
        due("back without people", green.back(2), 0);
    }
}
