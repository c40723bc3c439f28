/** Promises 4 and 5 by texts: the sign ^ stands ahead of the place of the fault and is no part of the text. */
public final class FaultTest {
    private static final Check CHECK = new Check("FaultTest");
    private static final String SIX =
        "person a firm 1;person b firm 1;person c firm 1;person d firm 1;person e firm 1;person f firm 1;";
    private static final String TWO = "person a firm 1;person b firm 1;";

    public static void main(String[] args) {
        tokens();
        lines();
        people();
        meetings();
        brothers();
        settings();
        formulas();
        firstOfSeveral();
        onOneObject();
        CHECK.end();
    }

    private static void fault(int kind, String marked) {
        int place = marked.indexOf('^');
        String text = marked.substring(0, place) + marked.substring(place + 1);
        NettleGreen green = new NettleGreen();
        Check.put(green, text);
        CHECK.due("hamlet of " + marked, green.hamlet(), -1);
        CHECK.due("fault of " + marked, green.fault(0), kind);
        CHECK.due("place of " + marked, green.fault(1), place);
    }

    private static void good(String text, int people) {
        NettleGreen green = new NettleGreen();
        Check.put(green, text);
        CHECK.due("hamlet of " + text, green.hamlet(), people);
        CHECK.due("fault of " + text, green.fault(0), 0);
        CHECK.due("place of " + text, green.fault(1), -1);
    }

    private static String times(int n, String text) {
        return text.repeat(n);
    }

    private static void tokens() {
        for (char sign : new char[] {'$', 'A', 'Z', '_', '.', ',', '!', '[', '{', '`', 9, 13, 0, 127, 128, 160, 225, 255}) {
            fault(1, "^" + sign);
            fault(1, "bed 9;  ^" + sign + " bed");
            fault(1, "person ^" + sign);
        }
        good("", 0);
        good(" \n \n", 0);
        good("bed\n9 ;\n", 0);
        good("bed9;flares1;draw0;", 0);
        good("person a firm3 learns2 lumps5;", 1);
        good("person abcdefgh firm 1;", 1);
        fault(1, "person ^abcdefghi firm 1;");
        fault(1, "^abcdefghi");
        fault(1, "person a firm ^3learns 2;");
        fault(1, "bed ^9x;");
        fault(1, "bed ^9a;");
        fault(1, "bed ^9z;");
        fault(1, "bed ^999x;");
        good("person a firm 0030;", 1);
        good("lumps 9999;", 0);
        fault(1, "lumps ^12345;");
        fault(1, "lumps ^00001;");
        fault(1, "lumps 1 + ^1own;");
        good("lumps(own)*2;", 0);
        fault(2, "^lumpsown;");
    }

    private static void lines() {
        fault(2, "^;");
        fault(2, "^5");
        fault(2, "^ann");
        fault(2, "^firm");
        fault(2, "bed 5;^;");
        fault(2, "bed 5;   ^( $");
        fault(2, "bed^");
        fault(2, "bed  \n ^");
        fault(2, "bed 5^");
        fault(2, "bed 5 ^bed");
        fault(1, "bed 5 ^? bed");
        fault(2, "^and bed 5;");
    }

    private static void people() {
        good(SIX, 6);
        fault(2, SIX + "^person g firm 1;");
        fault(2, SIX + "^person a");
        fault(2, SIX + "^person $");
        fault(2, "person ^");
        fault(2, "person ^5");
        for (String word : ("person firm learns lumps meet on brother cools round bed flares draw or and not own other "
            + "sore day week").split(" ")) {
            fault(2, "person ^" + word + " firm 1;");
        }
        good("person e firm 1;person both firm 1;person one firm 1;person sum firm 1;person n firm 1;", 5);
        fault(3, "person a firm 1;person ^a firm 1;");
        good("person a firm 1;person aa firm 1;person b firm 1;person ab firm 1;", 4);
        fault(2, "person a^;");
        fault(2, "person a ^1;");
        fault(2, "person a firm^;");
        fault(2, "person a firm ^x;");
        good("person a firm 0;", 1);
        good("person a firm 30;", 1);
        fault(4, "person a firm ^31;");
        fault(4, "person a firm ^9999 $");
        good("person a firm 1 learns 0;", 1);
        good("person a firm 1 learns 9;", 1);
        fault(4, "person a firm 1 learns ^10;");
        good("person a firm 1 lumps 0;", 1);
        good("person a firm 1 lumps 99;", 1);
        good("person a firm 1 learns 9 lumps 99;", 1);
        fault(4, "person a firm 1 lumps ^100;");
        fault(2, "person a firm 1 lumps 1 ^learns 1;");
        fault(2, "person a firm 1 learns 1 ^learns 1;");
        fault(2, "person a firm 1 lumps 1 ^lumps 1;");
        fault(2, "person a firm 1 learns ^lumps 1;");
        fault(2, "person a firm 1 ^2;");
        fault(2, "person a firm 1^");
    }

    private static void meetings() {
        good(TWO + times(9, "meet a b on 0;"), 2);
        fault(2, TWO + times(9, "meet a b on 0;") + "^meet a b on 0;");
        fault(2, TWO + times(9, "meet a b on 0;") + "^meet $");
        fault(2, TWO + "meet ^;");
        fault(2, TWO + "meet ^on");
        fault(5, TWO + "meet ^z b on 0;");
        fault(5, "meet ^a b on 0;" + TWO);
        fault(3, TWO + "meet a ^a on 0;");
        fault(5, TWO + "meet a ^z on 0;");
        fault(2, TWO + "meet a ^on 0;");
        fault(2, TWO + "meet a b ^a on 0;");
        fault(2, TWO + "meet a b ^0;");
        fault(2, TWO + "meet a b on ^a;");
        good(TWO + "meet b a on 6;", 2);
        fault(4, TWO + "meet b a on ^7;");
        fault(2, TWO + "meet b a on 6 ^6;");
        good(TWO + "brother z cools 1 round a;meet a b on 0;", 2);
        fault(5, TWO + "brother z cools 1 round a;meet a ^z on 0;");
    }

    private static void brothers() {
        String one = "brother a cools 1 round a;";
        good(TWO + one + "brother b cools 20 round b a;", 2);
        fault(2, TWO + one + "brother b cools 1 round b;^brother c cools 1 round a;");
        fault(3, TWO + one + "brother ^a cools 1 round b;");
        fault(2, TWO + "brother ^round cools 1 round b;");
        fault(2, TWO + "brother x ^round a;");
        fault(2, TWO + "brother x cools ^a;");
        fault(4, TWO + "brother x cools ^0 round a;");
        fault(4, TWO + "brother x cools ^21 round a;");
        fault(2, TWO + "brother x cools 1 ^a;");
        fault(2, TWO + "brother x cools 1 round ^;");
        fault(2, TWO + "brother x cools 1 round ^5;");
        fault(5, "brother x cools 1 round ^a;");
        fault(5, TWO + "brother x cools 1 round ^x;");
        fault(3, TWO + "brother x cools 1 round a ^a;");
        fault(3, TWO + "brother x cools 1 round a b ^a;");
        fault(5, TWO + "brother x cools 1 round a b ^c;");
        good(SIX + "brother x cools 1 round f e d c b a;", 6);
        fault(3, SIX + "brother x cools 1 round f e d c b a ^f;");
        fault(2, TWO + "brother x cools 1 round a ^on;");
        fault(2, TWO + "brother x cools 1 round a^");
    }

    private static void settings() {
        good("bed 1;flares 0;draw 0;", 0);
        good("bed 99;flares 100;draw 999;", 0);
        fault(4, "bed ^0;");
        fault(4, "bed ^100;");
        fault(4, "flares ^101;");
        fault(4, "draw ^1000;");
        fault(2, "bed 1;^bed 1;");
        fault(2, "flares 1;^flares 1;");
        fault(2, "draw 1;^draw $");
        fault(2, "lumps 1;bed 2;^lumps 1;");
        fault(2, "bed ^;");
        fault(2, "draw ^own;");
        good("draw 1;lumps 1;flares 1;person a firm 1;bed 1;", 1);
    }

    private static void formulas() {
        fault(2, "lumps ^;");
        fault(2, "lumps ^z;");
        fault(2, "lumps ^person");
        fault(2, "lumps ^- 1;");
        fault(2, "lumps 1 ^1;");
        fault(2, "lumps 1 + ^;");
        fault(2, "lumps 1 + ^not 1;");
        fault(2, "lumps 1 < ^not 1;");
        fault(2, "lumps 1 * ^not 1;");
        good("lumps not 1 and not not 2 or not (not 3);", 0);
        good("lumps (1 < 2) < (3 = (4 > 5));", 0);
        fault(2, "lumps 1 < 2 ^< 3;");
        fault(2, "lumps 1 = 2 ^> 3;");
        fault(2, "lumps not 1 < 2 ^= 3;");
        fault(2, "lumps (1^;");
        fault(2, "lumps 1^);");
        fault(2, "lumps (^);");
        fault(2, "lumps 1 or ^;");
        fault(2, "lumps 1 ^not 2;");
        fault(2, "lumps own^1;");
        fault(1, "lumps own + ^1a;");
        good("lumps " + times(7, "(") + "1" + times(7, ")") + ";", 0);
        fault(2, "lumps " + times(7, "(") + "^(1");
        good("lumps " + times(7, "not ") + "1;", 0);
        fault(2, "lumps " + times(7, "not ") + "^not 1;");
        good("lumps " + times(3, "not ") + times(4, "(") + "own < 1" + times(4, ")") + " and not (1);", 0);
        fault(2, "lumps " + times(3, "not ") + times(4, "(") + "^not 1;");
        fault(2, "lumps " + times(4, "(") + times(3, "not ") + "^(1;");
        good("lumps 1" + times(29, "+1") + ";", 0);
        fault(2, "lumps 1" + times(29, "+1") + "+^1;");
        fault(2, "lumps 1" + times(29, "+1") + "*^(1);");
        fault(1, "lumps 1" + times(29, "+1") + "+^$;");
        fault(2, "lumps 1" + times(28, "+1") + "+(^1);");
        good("lumps 1" + times(27, "+1") + "+(1);", 0);
        fault(2, "lumps " + times(14, "(1)+") + "(1)+^1;");
    }

    /** The first by its place; at one place the least. */
    private static void firstOfSeveral() {
        fault(4, "bed ^0;bed 0;");
        fault(4, "bed ^0 $");
        fault(4, "bed ^100");
        fault(1, "bed ^00100");
        fault(1, "bed ^100x");
        fault(1, "bed ^0a;");
        fault(1, "^$ bed 0;");
        fault(3, TWO + "person ^a firm 31;");
        fault(2, SIX + "^person a firm 31;");
        fault(5, TWO + "meet ^z z on 9;");
        fault(3, TWO + "meet b ^b on 9;");
        fault(5, TWO + "meet a ^y on 9;");
        fault(3, TWO + "brother a cools 1 round b;brother ^a cools 0 round z;");
        fault(4, TWO + "brother a cools ^0 round z z;");
        fault(2, TWO + "brother a cools 1 round a;brother b cools 1 round a;^brother a cools 0 round z;");
        fault(5, TWO + "brother a cools 1 round ^z z;");
        fault(3, TWO + "brother a cools 1 round b ^b z;");
        fault(5, TWO + "brother a cools 1 round b ^z b;");
        fault(2, "lumps 1;^lumps $;");
        fault(2, "lumps 1;bed 3;^lumps");
        fault(2, "flares 0;^flares 101;");
        fault(2, "draw 0;^draw 1000;");
        fault(2, "bed 1;^bed 0;");
        fault(2, TWO + times(9, "meet a b on 6;") + "^meet z z on 7;");
        fault(2, "lumps 1" + times(29, "*1") + "/^(((((((((1;");
        fault(2, "lumps 1" + times(29, "*1") + "^");
        fault(2, "lumps 1" + times(29, "*1") + "+^");
        fault(2, "lumps 1" + times(29, "*1") + "+^;");
        fault(2, "lumps 1" + times(29, "*1") + "+^abcdefgh;");
        fault(1, "lumps 1" + times(29, "*1") + "+^abcdefghi;");
        fault(1, "lumps 1" + times(29, "*1") + "+^12345;");
        fault(2, "lumps " + times(7, "(") + "1+^not 1");
        fault(2, "lumps " + times(7, "(") + "1 and ^not 1");
        fault(2, "lumps " + times(7, "(") + "1 and ^(1)");
        fault(2, "lumps " + times(7, "(") + "1" + times(6, ")") + "^;");
        fault(2, "lumps " + times(7, "(") + "1" + times(7, ")") + "^);");
        good("lumps " + times(7, "(") + "1" + times(7, ")") + "+" + times(7, "(") + "1" + times(7, ")") + " and " + times(7, "not ")
            + "1;", 0);
    }

    private static void next(NettleGreen green, String marked, int kind) {
        int place = marked.indexOf('^');
        Check.put(green, marked.replace("^", ""));
        green.hamlet();
        CHECK.due("fault, not the first text, of " + marked, green.fault(0), kind);
        CHECK.due("place, not the first text, of " + marked, green.fault(1), place);
    }

    /** What one text told, or began to tell, is not told in the next one. */
    private static void onOneObject() {
        NettleGreen green = new NettleGreen();
        String all = SIX + times(9, "meet a b on 0;") + "brother x cools 1 round a b;brother y cools 1 round b;"
            + "bed 5;flares 5;draw 5;lumps 1" + times(29, "+1") + ";";
        for (int i = 0; i < 3; i++) {
            next(green, all, 0);
            next(green, all + "^bed 5;", 2);
            next(green, all + "^$", 1);
            next(green, "meet ^a b on 0;", 5);
            next(green, "brother x cools 1 round ^a;", 5);
            next(green, "person a firm 1;meet a ^b on 0;", 5);
            next(green, "person a firm ^31;", 4);
            next(green, "person a firm 1;", 0);
            next(green, "person b firm 1;person ^b firm 1;", 3);
            next(green, "", 0);
            next(green, "bed^", 2);
            next(green, "bed 5;", 0);
        }
    }
}
