import java.util.ArrayList;
import java.util.List;
import java.util.Random;

/** Random texts and random calls, each answer held against Model; every run has a seed of its own, told if it fails. */
public final class ModelTest {
    private static final int RUNS = 1500;
    private static final int CALLS = 500;
    private static final int[] ODD_NUMBERS = {-1, -2, Integer.MIN_VALUE, Integer.MAX_VALUE, 61, 100, 31, 32, 1000, 1001, 15};

    private final Random random;
    private final NettleGreen green = new NettleGreen();
    private final Model model = new Model();
    private final List<String> calls = new ArrayList<>();

    private ModelTest(long seed) {
        random = new Random(seed);
    }

    public static void main(String[] args) {
        int wrong = 0;
        int read = 0;
        for (int run = 0; run < RUNS && wrong < 5; run++) {
            ModelTest test = new ModelTest(run);
            String fault = test.run();
            read += test.model.told.people.isEmpty() ? 0 : 1;
            if (fault != null) {
                wrong++;
                System.out.println("run " + run + ": " + fault);
            }
        }
        System.out.println(wrong == 0 ? "ModelTest: all alike, " + read + " runs with people" : "ModelTest: " + wrong + " runs differ");
        if (wrong != 0 || read < RUNS / 2) {
            System.exit(1);
        }
    }

    private String run() {
        for (int i = 0; i < CALLS;) {
            if (i == 0 || random.nextInt(60) == 0) {
                String text = new TextMaker(random).make();
                i += 2 + (text.length() + 19) / 20;
                String fault = feedText(text);
                if (fault != null) {
                    return fault + " for the text\n" + text;
                }
            } else {
                i++;
                String fault = anyCall();
                if (fault != null) {
                    return fault;
                }
            }
        }
        return null;
    }

    private String feedText(String text) {
        int[] n = new int[5];
        for (int i = 0; i < text.length(); i += 20) {
            for (int j = 0; j < 20; j++) {
                int sign = i + j < text.length() ? text.charAt(i + j) : 0;
                n[j / 4] = n[j / 4] << 8 | sign;
            }
            String fault = same("feed", green.feed(n[0], n[1], n[2], n[3], n[4]), model.feed(n[0], n[1], n[2], n[3], n[4]));
            if (fault != null) {
                return fault;
            }
        }
        String fault = same("end " + text.length(), green.end(text.length()), model.end(text.length()));
        fault = fault != null ? fault : same("hamlet", green.hamlet(), model.hamlet());
        for (int what = 0; what < 2 && fault == null; what++) {
            fault = same("fault " + what, green.fault(what), model.fault(what));
        }
        for (int what = 0; what < 15 && fault == null; what++) {
            fault = same("about " + what, green.about(what), model.about(what));
        }
        return fault;
    }

    private int any(int most) {
        if (random.nextInt(25) == 0) {
            return ODD_NUMBERS[random.nextInt(ODD_NUMBERS.length)];
        }
        return random.nextInt(most + 2);
    }

    private String anyCall() {
        int a = 0;
        int b = 0;
        int c = 0;
        int people = Math.max(0, model.told.people.size() - 1);
        int meetings = Math.max(0, model.told.meetings.size() - 1);
        switch (random.nextInt(58)) {
            case 0: a = any(4); b = any(9); return same("feed", green.feed(a, b, a, b, a), model.feed(a, b, a, b, a));
            case 1: a = any(40); return same("end " + a, green.end(a), model.end(a));
            case 2: a = any(2); return same("fault " + a, green.fault(a), model.fault(a));
            case 3: a = any(people); b = any(3); return same("person " + a + " " + b, green.person(a, b), model.person(a, b));
            case 4: a = any(meetings); b = any(3); return same("meeting " + a + " " + b, green.meeting(a, b), model.meeting(a, b));
            case 5: a = any(1); b = any(1); return same("brother " + a + " " + b, green.brother(a, b), model.brother(a, b));
            case 6: a = any(1); b = any(5); return same("round " + a + " " + b, green.round(a, b), model.round(a, b));
            case 7: a = any(meetings); b = any(1); return same("touch " + a + " " + b, green.touch(a, b), model.touch(a, b));
            case 8: return same("abed", green.abed(), model.abed());
            case 9: case 10: case 11: case 12: case 13: return same("day", green.day(), model.day());
            case 14: a = any(people); return same("lesson " + a, green.lesson(a), model.lesson(a));
            case 15: case 16: a = any(meetings); return same("forbid " + a, green.forbid(a), model.forbid(a));
            case 17: a = any(meetings); return same("allow " + a, green.allow(a), model.allow(a));
            case 18: a = any(1); b = any(people); return same("call " + a + " " + b, green.call(a, b), model.call(a, b));
            case 19: case 20: return same("undo", bit(green.undo()), bit(model.undo()));
            case 21: return same("redo", bit(green.redo()), bit(model.redo()));
            case 22: a = any(people); b = any(60); c = any(1); return same("will " + a + " " + b + " " + c, green.will(a, b, c), model.will(a, b, c));
            case 23: a = any(people); b = any(60); return same("firm " + a + " " + b, green.firm(a, b), model.firm(a, b));
            case 24: a = any(60); return same("hurt " + a, green.hurt(a), model.hurt(a));
            case 25: a = any(people); return same("felled " + a, green.felled(a), model.felled(a));
            case 26: a = any(14); b = any(1); return rarely(8) ? null : same("peace " + a + " " + b, green.peace(a, b), model.peace(a, b));
            case 27: a = any(1); b = any(14); return rarely(8) ? null : same("rounds " + a + " " + b, green.rounds(a, b), model.rounds(a, b));
            case 28: a = any(people); b = any(30); return same("grip " + a + " " + b, green.grip(a, b), model.grip(a, b));
            case 29: a = any(30); b = any(1); return same("pupil " + a + " " + b, green.pupil(a, b), model.pupil(a, b));
            case 30: return rarely(3) ? null : same("evenings", green.evenings(), model.evenings());
            case 31: a = any(people); b = any(people); return same("rumour " + a + " " + b, green.rumour(a, b), model.rumour(a, b));
            case 32: return same("manners", green.manners(), model.manners());
            case 33: a = any(meetings); return same("duel " + a, green.duel(a), model.duel(a));
            case 34: a = any(1); return same("scourge " + a, green.scourge(a), model.scourge(a));
            case 35: a = any(1); b = any(1); return same("relief " + a + " " + b, green.relief(a, b), model.relief(a, b));
            case 36: return same("sorest", green.sorest(), model.sorest());
            case 37: return same("firmest", green.firmest(), model.firmest());
            case 38: return same("due", green.due(), model.due());
            case 39: a = any(people); return same("friends " + a, green.friends(a), model.friends(a));
            case 40: return same("uncared", green.uncared(), model.uncared());
            case 41: a = any(30); return same("law " + a, green.law(a), model.law(a));
            case 42: a = any(meetings); return same("next " + a, green.next(a), model.next(a));
            case 43: a = any(4); b = any(1); return same("odds " + a + " " + b, green.odds(a, b), model.odds(a, b));
            case 44: case 45: a = any(5); return same("lies " + a, green.lies(a), model.lies(a));
            case 46: case 47: return anySeen();
            case 48: a = any(8); return same("untell " + a, bit(green.untell(a)), bit(model.untell(a)));
            case 49: a = any(4); return same("later " + a, green.later(a), model.later(a));
            case 50: a = anyTime(); return same("fits " + a, green.fits(a), model.fits(a));
            case 51: a = any(1); b = anyTime(); return same("sure " + a + " " + b, green.sure(a, b), model.sure(a, b));
            case 52: a = any(14); b = any(1); c = anyTime(); return same("ask " + a + " " + b + " " + c, green.ask(a, b, c), model.ask(a, b, c));
            case 53: a = any(2); return same("image " + a, green.image(a), model.image(a));
            case 54: a = any(2); return rarely(3) ? null : same("back " + a, green.back(a), model.back(a));
            default: a = any(14); return same("about " + a, green.about(a), model.about(a));
        }
    }

    /** A sight that is so by one of the last one's grips most times, so that what is seen seldom leaves none. */
    private String anySeen() {
        int people = model.told.people.size();
        int days = any(14);
        int person = any(Math.max(0, people - 1));
        int lumps = any(99);
        boolean is = random.nextBoolean();
        if (people > 0 && days >= 0 && days <= 14 && person >= 0 && person < people && random.nextInt(10) > 0) {
            int had = model.asTold(17, days).lumps[person];
            lumps = Math.max(0, Math.min(99, had + random.nextInt(3) - 1));
            is = had >= lumps;
        }
        return same("seen " + days + " " + person + " " + lumps + " " + is,
            green.seen(days, person, lumps, is), model.seen(days, person, lumps, is));
    }

    private int anyTime() {
        return random.nextInt(4) == 0 ? any(5) : Math.max(-1, model.time - random.nextInt(6) + 1);
    }

    private boolean rarely(int of) {
        return random.nextInt(of) != 0;
    }

    private static int bit(boolean is) {
        return is ? 1 : 0;
    }

    private String same(String call, int got, int want) {
        calls.add(call + " -> " + got);
        return got == want ? null : call + " answered " + got + ", due is " + want + " behind " + calls;
    }
}
