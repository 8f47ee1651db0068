import java.lang.reflect.InvocationTargetException;
import java.lang.reflect.Method;
import java.util.HashMap;
import java.util.Map;
import java.util.Random;

/** Runs of calls, drawn from fixed seeds, whose every answer is compared with that of PlainLedger. */
public final class AgreementTest {
    private static final int RUNS = 1200;
    /** A new text takes some 50 calls, and an object is used for at most 512. */
    private static final int CALLS = 450;

    /**
     * Each method with a letter for each argument: t team, p player, a years ahead, w kind, f place,
     * r rule, y years, s stretch, L length of the text, B base, R raise, N length, S bonus, G guaranteed.
     */
    private static final String[] QUERIES = {
        "errorPosition", "year", "cap a", "taxLine a", "offer w", "charge t a", "deadMoney t a", "room t", "tax t",
        "paid t", "taxedYears t", "midLevel t", "roster t", "teamRank w f", "playerValue p w", "salary p a",
        "share p a", "playerRank f", "meanSalary t", "signCode t p r", "bestRule t p", "greatestBase t p r",
        "releaseCost p s a", "releaseGain p s", "fewestReleases t", "releaseSet t", "tradeCode x",
        "swapCount t t", "bestSwap t t", "taxAhead t y"
    };
    private static final String[] ACTIONS = {
        "makeOffer B R N S G", "makeOffer B R N S G", "sign t p r", "sign t p r", "sign t p r", "sign t p r",
        "release p s", "trade x", "trade x", "undo"
    };

    private final Random random;
    private final Check check;
    private final SalaryCapLedger ledger = new SalaryCapLedger();
    private final PlainLedger plain = new PlainLedger();
    private static final Map<String, Method[]> METHODS = new HashMap<>();
    private int calls = 0;
    private int scale = 100;
    private int yearsRarely = 10;

    private AgreementTest(long seed, Check check) {
        random = new Random(seed);
        this.check = check;
    }

    public static void main(String[] args) {
        for (Method method : SalaryCapLedger.class.getMethods()) {
            if (method.getDeclaringClass() == SalaryCapLedger.class) {
                METHODS.put(method.getName(), new Method[] {method, twin(method)});
            }
        }
        Check check = new Check();
        for (int seed = 0; seed < RUNS && !check.hasFailed(); seed++) {
            new AgreementTest(seed, check).run(seed);
        }
        check.finish("AgreementTest");
    }

    private static Method twin(Method method) {
        try {
            return PlainLedger.class.getMethod(method.getName(), method.getParameterTypes());
        } catch (NoSuchMethodException missing) {
            throw new IllegalStateException(missing);
        }
    }

    private void run(long seed) {
        for (int k = 0; calls < CALLS && !check.hasFailed(); k++) {
            int die = random.nextInt(100);
            if (k == 3 || k == 5 || random.nextInt(200) == 0) {
                loadText(seed);
            } else if (die < 30 && random.nextInt(yearsRarely) == 0) {
                call(seed, "nextYear");
            } else if (die < 30) {
                call(seed, ACTIONS[random.nextInt(ACTIONS.length)]);
            } else if (die < 41) {
                call(seed, "append B B B B B");
                call(seed, "truncate L");
            } else {
                call(seed, QUERIES[random.nextInt(QUERIES.length)]);
            }
        }
    }

    private void loadText(long seed) {
        call(seed, "truncate 0");
        String text = leagueText();
        if (random.nextInt(3) == 0) {
            text = damaged(text);
        }
        for (int start = 0; start < text.length(); start += 20) {
            Object[] words = new Object[5];
            for (int k = 0; k < 5; k++) {
                words[k] = Check.word(text, start + 4 * k);
            }
            compare(seed, "append", words);
        }
        compare(seed, "truncate", new Object[] {Math.min(900, text.length())});
        if (random.nextInt(6) == 0) {
            compare(seed, "truncate", new Object[] {random.nextInt(text.length() + 1)});
        }
        compare(seed, "load", new Object[0]);
        compare(seed, "errorPosition", new Object[0]);
    }

    private String leagueText() {
        scale = random.nextInt(5) == 0 ? 99999 : 10 + random.nextInt(300);
        yearsRarely = 2 + random.nextInt(30);
        int big = random.nextInt(8) == 0 ? 999999 : Math.min(999999, 1 + random.nextInt(scale * (1 + random.nextInt(8))));
        StringBuilder text = new StringBuilder("league " + big);
        text.append(gap()).append(Math.min(999999, Math.max(1, big - scale + random.nextInt(3 * scale))));
        text.append(gap()).append(random.nextInt(201)).append(gap()).append(random.nextInt(scale + 1));
        text.append(gap()).append(1 + random.nextInt(scale)).append(";");
        int brackets = 1 + random.nextInt(4);
        for (int k = 0; k < brackets; k++) {
            text.append("bracket ").append(1 + random.nextInt(scale)).append(gap()).append(random.nextInt(901)).append(" ;");
        }
        int teams = random.nextInt(3) == 0 ? 1 + random.nextInt(4) : 2;
        int players = random.nextInt(4) == 0 ? 24 : 1 + random.nextInt(24);
        text.append("teams ").append(teams).append(";players ").append(players).append(";");
        int chance = 30 + random.nextInt(71);
        int favourite = random.nextInt(teams);
        int[] size = new int[teams];
        for (int p = 0; p < players; p++) {
            int team = random.nextInt(3) == 0 ? favourite : random.nextInt(teams);
            if (random.nextInt(100) < chance && text.length() < 860 && size[team] < 12) {
                size[team]++;
                int length = 1 + random.nextInt(5);
                text.append("contract ").append(p).append(gap()).append(team);
                text.append(gap()).append(1 + random.nextInt(scale)).append(gap()).append(random.nextInt(21));
                text.append(gap()).append(length).append(gap()).append(bonus());
                text.append(gap()).append(random.nextInt(length + 1)).append(";");
            }
        }
        return text.toString();
    }

    private String gap() {
        return random.nextInt(20) == 0 ? " \n" : " ";
    }

    private int bonus() {
        return random.nextInt(3) == 0 ? 0 : random.nextInt(scale + 1);
    }

    private String damaged(String text) {
        StringBuilder damaged = new StringBuilder(text);
        int bracket = text.indexOf("bracket");
        int position = random.nextInt(4) == 0 ? bracket : random.nextInt(text.length());
        String[] pieces = {"9", "0", "1234567", "000001", " ", "\n", "\t", ";", "bracket 1 1;", "bracket 1 1;bracket 2 2;bracket 3 3;", "teams", "x", "L",
            "\u00ff", "\u0000", "contract 0 0 1 0 1 0 0;", "players 2;", "24", "4", "6", "000000000"};
        String piece = pieces[random.nextInt(pieces.length)];
        switch (random.nextInt(4)) {
            case 0:
                damaged.insert(position, piece);
                break;
            case 1:
                damaged.deleteCharAt(position);
                break;
            case 2:
                damaged.setLength(position);
                break;
            default:
                damaged.replace(position, position + 1, piece);
        }
        if (random.nextInt(3) == 0 && damaged.length() < 800) {
            damaged.append(piece);
        }
        return damaged.length() > 900 ? damaged.substring(0, 900) : damaged.toString();
    }

    private void call(long seed, String form) {
        String[] parts = form.split(" ");
        if (form.endsWith(" x")) {
            compare(seed, parts[0], tradeArguments());
            return;
        }
        Object[] arguments = new Object[parts.length - 1];
        int length = 1 + random.nextInt(5);
        for (int k = 1; k < parts.length; k++) {
            arguments[k - 1] = argument(parts[k], length);
        }
        compare(seed, parts[0], arguments);
    }

    private Object argument(String letter, int length) {
        boolean strange = random.nextInt(60) == 0;
        int edge = strange ? new int[] {-1, 1 << 20, Integer.MIN_VALUE, Integer.MAX_VALUE}[random.nextInt(4)] : 0;
        switch (letter) {
            case "s":
                return random.nextBoolean();
            case "0":
                return 0;
            case "t":
                return strange ? edge : random.nextInt(random.nextInt(10) == 0 ? 5 : 2);
            case "p":
                return strange ? edge : random.nextInt(random.nextInt(3) == 0 ? 25 : 8);
            case "a":
                return strange ? edge : random.nextInt(random.nextInt(5) == 0 ? 13 : 6);
            case "w":
                return strange ? edge : random.nextInt(8);
            case "f":
                return strange ? edge : random.nextInt(6);
            case "r":
                return strange ? edge : random.nextInt(4 + random.nextInt(20) / 19);
            case "y":
                return strange ? edge : random.nextInt(10);
            case "L":
                return strange ? edge : random.nextInt(60);
            case "B":
                return strange ? edge : 1 + random.nextInt(random.nextInt(3) == 0 ? scale : Math.max(1, scale / 5));
            case "R":
                return strange ? edge : random.nextInt(2) * random.nextInt(22);
            case "N":
                return strange ? edge : length;
            case "S":
                return strange ? edge : bonus();
            default:
                return strange ? edge : random.nextInt(length + 1);
        }
    }

    /** Sets of players who mostly play where they should, so that the later errors come up, too. */
    private Object[] tradeArguments() {
        int team = random.nextInt(2);
        int other = random.nextInt(30) == 0 ? random.nextInt(5) : 1 - team;
        return new Object[] {team, someOf(team), other, someOf(other)};
    }

    private int someOf(int team) {
        if (random.nextInt(25) == 0) {
            return random.nextInt(2) == 0 ? random.nextInt() : random.nextInt(1 << 8);
        }
        int roster = 0;
        try {
            roster = plain.roster(team);
        } catch (IllegalStateException | IllegalArgumentException none) {
            return 1;
        }
        switch (random.nextInt(5)) {
            case 0:
                return 0;
            case 1:
                return roster;
            case 2:
                return roster & random.nextInt();
            default:
                return roster & random.nextInt() & random.nextInt();
        }
    }

    private void compare(long seed, String name, Object[] arguments) {
        calls++;
        Method[] both = METHODS.get(name);
        StringBuilder what = new StringBuilder("seed " + seed + ": " + name);
        for (Object argument : arguments) {
            what.append(' ').append(argument);
        }
        check.outcome(what.toString(), answer(both[1], plain, arguments), answer(both[0], ledger, arguments));
    }

    private static String answer(Method method, Object target, Object[] arguments) {
        try {
            return String.valueOf(method.invoke(target, arguments));
        } catch (InvocationTargetException thrown) {
            return thrown.getCause().getClass().getName();
        } catch (IllegalAccessException impossible) {
            throw new IllegalStateException(impossible);
        }
    }
}
