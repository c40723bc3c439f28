import java.util.ArrayList;
import java.util.List;
import java.util.Random;

/** Texts of hamlets: most are good ones, some have a token or a byte that is off. */
final class TextMaker {
    private static final String[] NAMES = {"ann", "bob", "cy", "dot", "eve", "fay", "g", "abcdefgh", "firmer", "o", "nota"};
    private static final String[] TOKENS = {"person", "firm", "learns", "lumps", "meet", "on", "brother", "cools", "round",
        "bed", "flares", "draw", "or", "and", "not", "own", "other", "sore", "day", "week", "zed", "ann", "abcdefghi", "0",
        "7", "30", "31", "100", "1000", "12345", "9x", ";", "(", ")", "<", ">", "=", "+", "-", "*", "/", "%", "$", "A", "\t",
        "\u0000", "\u00ff", "\n"};

    private final Random random;
    private final List<String> tokens = new ArrayList<>();

    TextMaker(Random random) {
        this.random = random;
    }

    String make() {
        if (random.nextInt(30) == 0) {
            return "";
        }
        int people = random.nextInt(6) == 0 ? random.nextInt(8) : 1 + random.nextInt(6);
        boolean strict = random.nextInt(4) > 0;
        for (int p = 0; p < (strict ? Math.min(people, 6) : people); p++) {
            person(strict ? NAMES[p] : anyName());
        }
        List<Runnable> lines = new ArrayList<>();
        int known = Math.max(1, Math.min(people, 6));
        for (int m = random.nextInt(strict ? 10 : 11); m > 0 && (people > 1 || !strict); m--) {
            lines.add(() -> meeting(known, strict));
        }
        int brothers = random.nextInt(strict ? 3 : 4);
        for (int b = 0; b < brothers && (people > 0 || !strict); b++) {
            String name = strict ? "tom".substring(0, 1 + b) : anyName();
            lines.add(() -> brother(name, known, strict));
        }
        settings(lines, strict);
        java.util.Collections.shuffle(lines, random);
        lines.forEach(Runnable::run);
        String text = joined();
        return text.length() > 1600 ? text.substring(0, 1600) : text;
    }

    private void settings(List<Runnable> lines, boolean strict) {
        if (random.nextInt(5) > 0) {
            lines.add(this::formula);
        }
        if (random.nextBoolean()) {
            lines.add(() -> setting("bed", 1 + random.nextInt(99)));
        }
        if (random.nextInt(3) > 0) {
            lines.add(() -> setting("flares", random.nextInt(101)));
        }
        if (random.nextBoolean()) {
            lines.add(() -> setting("draw", random.nextInt(1000)));
        }
        if (!strict && random.nextInt(3) == 0) {
            lines.add(() -> setting(random.nextBoolean() ? "bed" : "draw", random.nextInt(1100)));
        }
    }

    private String joined() {
        for (int i = random.nextInt(6) == 0 ? 1 + random.nextInt(2) : 0; i > 0 && !tokens.isEmpty(); i--) {
            spoil();
        }
        StringBuilder text = new StringBuilder();
        boolean tight = random.nextBoolean();
        for (String token : tokens) {
            char last = text.length() == 0 ? ' ' : text.charAt(text.length() - 1);
            boolean joins = Character.isLetterOrDigit(last) && Character.isLetterOrDigit(token.charAt(0));
            boolean wordThenNumber = Character.isLetter(last) && Character.isDigit(token.charAt(0));
            if (joins && !(wordThenNumber && tight) && random.nextInt(3000) != 0 || !tight && random.nextInt(4) == 0) {
                text.append(random.nextInt(5) == 0 ? "\n" : " ");
            }
            text.append(token);
        }
        if (random.nextInt(40) == 0) {
            text.setLength(random.nextInt(text.length() + 1));
        }
        return text.toString();
    }

    private void spoil() {
        int at = random.nextInt(tokens.size());
        String token = TOKENS[random.nextInt(TOKENS.length)];
        switch (random.nextInt(3)) {
            case 0: tokens.remove(at); break;
            case 1: tokens.set(at, token); break;
            default: tokens.add(at, token);
        }
    }

    private void put(Object... all) {
        for (Object token : all) {
            tokens.add(String.valueOf(token));
        }
    }

    private String anyName() {
        return NAMES[random.nextInt(NAMES.length)];
    }

    private void person(String name) {
        put("person", name, "firm", random.nextInt(31));
        if (random.nextInt(3) > 0) {
            put("learns", random.nextInt(10));
        }
        if (random.nextInt(3) == 0) {
            put("lumps", random.nextInt(random.nextBoolean() ? 100 : 20));
        }
        put(";");
    }

    private void meeting(int known, boolean strict) {
        int a = random.nextInt(known);
        int b = known > 1 && strict ? (a + 1 + random.nextInt(known - 1)) % known : random.nextInt(known);
        put("meet", NAMES[a], NAMES[b], "on", random.nextInt(7), ";");
    }

    private void brother(String name, int known, boolean strict) {
        put("brother", name, "cools", 1 + random.nextInt(20), "round");
        List<Integer> order = new ArrayList<>();
        for (int i = 0; i < known; i++) {
            order.add(i);
        }
        java.util.Collections.shuffle(order, random);
        int size = 1 + random.nextInt(known);
        for (int i = 0; i < size; i++) {
            put(NAMES[order.get(i)]);
        }
        if (!strict && random.nextInt(4) == 0) {
            put(anyName());
        }
        put(";");
    }

    private void setting(String word, int n) {
        put(word, n, ";");
    }

    private void formula() {
        put("lumps");
        either(random.nextInt(5) == 0 ? 5 : 2);
        put(";");
    }

    private void either(int size) {
        both(size);
        while (random.nextInt(8) == 0) {
            put("or");
            both(size);
        }
    }

    private void both(int size) {
        one(size);
        while (random.nextInt(8) == 0) {
            put("and");
            one(size);
        }
    }

    private void one(int size) {
        while (random.nextInt(12) == 0) {
            put("not");
        }
        sum(size);
        if (random.nextInt(6) == 0) {
            put("<>=".charAt(random.nextInt(3)));
            sum(size);
        }
    }

    private void sum(int size) {
        term(size);
        while (random.nextInt(3) == 0) {
            put("+-".charAt(random.nextInt(2)));
            term(size);
        }
    }

    private void term(int size) {
        unit(size);
        while (random.nextInt(4) == 0) {
            put("*/%".charAt(random.nextInt(3)));
            unit(size);
        }
    }

    private void unit(int size) {
        if (size > 0 && random.nextInt(size > 2 ? 2 : 5) == 0) {
            put("(");
            either(size - 1);
            put(")");
            return;
        }
        String[] units = {"own", "other", "sore", "day", "week", "own", "9", "0", String.valueOf(random.nextInt(12)),
            String.valueOf(random.nextInt(10000))};
        put(units[random.nextInt(units.length)]);
    }
}
