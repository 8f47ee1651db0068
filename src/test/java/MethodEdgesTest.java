import java.lang.reflect.InvocationTargetException;
import java.lang.reflect.Method;
import java.util.ArrayList;
import java.util.HashMap;
import java.util.List;
import java.util.Map;

/**
 * "8 METHODS": the ranges of all arguments, the order of exceptions, and what a refused call or a query leaves as it
 * was; and the 512th call of an object. Every method with an argument of a range is called with its least and greatest
 * value, the values just outside it, and the extreme values of an int.
 */
public final class MethodEdgesTest {
    private static final Check CHECK = new Check();
    private static final Map<String, Method> METHODS = new HashMap<>();
    private static final int LIMIT = 512;
    private static final int[] AHEAD = {0, 11, 1};
    /** The constructor and the methods in the order of their promises. */
    private static final List<String> PROMISES = List.of("SalaryCapLedger", "append", "truncate", "load", "errorPosition",
            "makeOffer", "sign", "release", "trade", "nextYear", "year", "cap", "taxLine", "offer", "charge", "deadMoney",
            "room", "tax", "paid", "taxedYears", "midLevel", "roster", "teamRank", "playerValue", "salary", "share",
            "playerRank", "meanSalary", "signCode", "bestRule", "greatestBase", "releaseCost", "releaseGain",
            "fewestReleases", "releaseSet", "tradeCode", "swapCount", "bestSwap", "taxAhead", "undo");

    /** A method, and for each argument but a boolean its least, greatest and an ordinary value. */
    private static final class Form {
        final String name;
        final int[][] ranges;

        Form(String name, int[]... ranges) {
            this.name = name;
            this.ranges = ranges;
        }

        String promise() {
            return "P" + (PROMISES.indexOf(name) + 1) + " " + name;
        }

        Object[] ordinary() {
            int[] values = new int[ranges.length];
            for (int k = 0; k < ranges.length; k++) {
                values[k] = ranges[k][2];
            }
            return arguments(values);
        }

        /** The two teams of a trade or a swap differ in every case. */
        Object[] with(int place, int value) {
            int[] values = new int[ranges.length];
            for (int k = 0; k < ranges.length; k++) {
                values[k] = k == place ? value : ranges[k][2];
            }
            int second = name.startsWith("trade") ? 2 : name.startsWith("swap") || name.equals("bestSwap") ? 1 : 0;
            if (second > 0 && values[0] == values[second]) {
                values[place == 0 ? second : 0] = value == 0 ? 1 : 0;
            }
            return arguments(values);
        }

        /** Booleans stand behind the first argument and are true. */
        Object[] arguments(int[] values) {
            Class<?>[] types = METHODS.get(name).getParameterTypes();
            Object[] arguments = new Object[types.length];
            int next = 0;
            for (int k = 0; k < types.length; k++) {
                arguments[k] = types[k] == boolean.class ? (Object) true : (Object) values[next++];
            }
            return arguments;
        }
    }

    public static void main(String[] args) {
        for (Method method : SalaryCapLedger.class.getMethods()) {
            if (method.getDeclaringClass() == SalaryCapLedger.class) {
                METHODS.put(method.getName(), method);
            }
        }
        withoutLeague();
        ranges(3, 5);
        ranges(2, 1);
        ranges(4, 24);
        oneTeam();
        bothTeamsTheSame();
        refusedCallsChangeNothing();
        errorsChangeNothing();
        queriesChangeNothing();
        theLatestCall();
        undoOfEachAction();
        undoLeavesTheText();
        tenActions();
        elevenActions();
        undoAndActAgain();
        actionsThatFailed();
        loadsAndActions();
        CHECK.finish("MethodEdgesTest");
    }

    private static List<Form> forms(int teams, int players) {
        int[] team = {0, teams - 1, 0};
        int[] other = {0, teams - 1, 1};
        int[] player = {0, players - 1, 0};
        int[] set = {0, (1 << players) - 1, 0};
        int[] rule = {0, 3, 1};
        List<Form> forms = new ArrayList<>();
        forms.add(new Form("makeOffer", new int[] {1, 99999, 30}, new int[] {0, 20, 5}, new int[] {1, 5, 3},
                new int[] {0, 99999, 10}, new int[] {0, 3, 1}));
        forms.add(new Form("sign", team, player, rule));
        forms.add(new Form("release", player));
        forms.add(new Form("trade", team, set, other, set));
        forms.add(new Form("nextYear"));
        forms.add(new Form("year"));
        forms.add(new Form("cap", AHEAD));
        forms.add(new Form("taxLine", AHEAD));
        forms.add(new Form("offer", new int[] {0, 4, 1}));
        forms.add(new Form("charge", team, AHEAD));
        forms.add(new Form("deadMoney", team, AHEAD));
        for (String name : new String[] {"room", "tax", "paid", "taxedYears", "midLevel", "roster", "meanSalary",
            "fewestReleases", "releaseSet"}) {
            forms.add(new Form(name, team));
        }
        forms.add(new Form("teamRank", new int[] {0, 4, 1}, new int[] {0, Integer.MAX_VALUE, 0}));
        forms.add(new Form("playerValue", player, new int[] {0, 6, 3}));
        forms.add(new Form("salary", player, AHEAD));
        forms.add(new Form("share", player, AHEAD));
        forms.add(new Form("playerRank", new int[] {0, Integer.MAX_VALUE, 0}));
        forms.add(new Form("signCode", team, player, rule));
        forms.add(new Form("bestRule", team, player));
        forms.add(new Form("greatestBase", team, player, rule));
        forms.add(new Form("releaseCost", player, AHEAD));
        forms.add(new Form("releaseGain", player));
        forms.add(new Form("tradeCode", team, set, other, set));
        forms.add(new Form("swapCount", team, other));
        forms.add(new Form("bestSwap", team, other));
        forms.add(new Form("taxAhead", team, new int[] {1, 8, 2}));
        forms.add(new Form("undo"));
        return forms;
    }

    private static String answer(SalaryCapLedger x, String name, Object... arguments) {
        try {
            return String.valueOf(METHODS.get(name).invoke(x, arguments));
        } catch (InvocationTargetException thrown) {
            return thrown.getCause().getClass().getSimpleName();
        } catch (IllegalAccessException impossible) {
            throw new IllegalStateException(impossible);
        }
    }

    private static void withoutLeague() {
        List<Form> forms = forms(3, 5);
        CHECK.is("8: all methods but append(), truncate(), load() and errorPosition()", METHODS.size() - 4, () -> forms.size());
        for (Form form : forms) {
            SalaryCapLedger x = new SalaryCapLedger();
            String what = form.promise() + ", 8 'throw IllegalStateException if no text was loaded";
            CHECK.outcome(what + "'", "IllegalStateException", answer(x, form.name, form.ordinary()));
            for (int k = 0; k < form.ranges.length; k++) {
                for (int value : new int[] {-1, Integer.MIN_VALUE, Integer.MAX_VALUE}) {
                    CHECK.outcome(what + " (checked first)'", "IllegalStateException",
                            answer(x, form.name, form.with(k, value)));
                }
            }
            x.load();
            CHECK.outcome(what + "', after a wrong text", "IllegalStateException", answer(x, form.name, form.ordinary()));
        }
    }

    private static Snapshot.Scene sized(int teams, int players) {
        return () -> Check.league(sizedText(teams, players));
    }

    private static String sizedText(int teams, int players) {
        return "league 900 300 100 70 60;bracket 10 150;bracket 5 300;teams " + teams + ";players " + players
                + ";contract 0 0 200 10 3 100 2;";
    }

    private static void ranges(int teams, int players) {
        Snapshot.Scene scene = sized(teams, players);
        for (Form form : forms(teams, players)) {
            for (int k = 0; k < form.ranges.length; k++) {
                int least = form.ranges[k][0];
                int greatest = form.ranges[k][1];
                String what = form.promise() + ", 8 'if an argument is out of its range': argument " + k + " of " + teams
                        + " teams, " + players + " players: ";
                for (int value : new int[] {least, greatest}) {
                    String got = answer(scene.make(), form.name, form.with(k, value));
                    boolean refused = got.equals("IllegalArgumentException") || got.equals("IllegalStateException");
                    CHECK.outcome(what + value + " is in its range", "taken", refused ? "refused" : "taken");
                }
                refusesOutside(what, scene, form, k);
            }
        }
    }

    private static void refusesOutside(String what, Snapshot.Scene scene, Form form, int place) {
        int least = form.ranges[place][0];
        int greatest = form.ranges[place][1];
        for (int value : new int[] {least - 1, greatest + 1, Integer.MIN_VALUE, Integer.MAX_VALUE}) {
            if (value < least || value > greatest) {
                CHECK.outcome(what + value + " is out of its range", "IllegalArgumentException",
                        answer(scene.make(), form.name, form.with(place, value)));
            }
        }
    }

    private static void oneTeam() {
        Snapshot.Scene scene = () -> Check.league("league 9 9 0 0 1;bracket 1 1;teams 1;players 2;contract 0 0 5 0 1 0 0;");
        for (String name : new String[] {"trade", "tradeCode"}) {
            CHECK.outcome("8: of one team there is no other one, " + name, "IllegalArgumentException", answer(scene.make(), name, 0, 1, 1, 0));
            CHECK.outcome("8: of one team there is no other one, " + name, "IllegalArgumentException", answer(scene.make(), name, 1, 0, 0, 1));
        }
        for (String name : new String[] {"swapCount", "bestSwap"}) {
            CHECK.outcome("8: of one team there is no other one, " + name, "IllegalArgumentException", answer(scene.make(), name, 0, 1));
        }
    }

    private static void bothTeamsTheSame() {
        for (int team = 0; team < 3; team++) {
            SalaryCapLedger x = sized(3, 5).make();
            for (int players = 0; players < 2; players++) {
                CHECK.outcome("P9 'or both teams are the same'", "IllegalArgumentException", answer(x, "trade", team, players, team, 0));
                CHECK.outcome("P36 'or both teams are the same'", "IllegalArgumentException", answer(x, "tradeCode", team, players, team, 0));
            }
            CHECK.outcome("P37 'or both teams are the same'", "IllegalArgumentException", answer(x, "swapCount", team, team));
            CHECK.outcome("P38 'or both teams are the same'", "IllegalArgumentException", answer(x, "bestSwap", team, team));
        }
    }

    /** The calls of a league in which everything is something else than at first; a wrong text stands in the buffer. */
    private static SalaryCapLedger busy() {
        return busy(900);
    }

    private static SalaryCapLedger busy(int cap) {
        SalaryCapLedger x = Check.league(busyText(cap));
        x.makeOffer(30, 5, 2, 10, 1);
        x.sign(0, 4, 1);
        x.nextYear();
        x.release(1, true);
        x.trade(0, 1, 1, 4);
        x.makeOffer(40, 0, 2, 6, 1);
        x.append(0x6c656167, 0x75650000, 0, 0, 0);
        x.load();
        x.append(0x20202020, 0x20207070, 0, 0, 0);
        x.truncate(7);
        return x;
    }

    private static void refusedCallsChangeNothing() {
        String before = Snapshot.whole(() -> busy());
        for (Form form : forms(3, 5)) {
            for (int k = 0; k < form.ranges.length; k++) {
                for (int value : new int[] {form.ranges[k][0] - 1, form.ranges[k][1] + 1}) {
                    int place = k;
                    CHECK.same(form.promise() + ", 8 'A method that throws an exception changes nothing', argument " + k, before,
                            Snapshot.whole(() -> after(form.name, form.with(place, value))));
                }
            }
        }
        CHECK.same("8: both teams the same change nothing", before, Snapshot.whole(() -> after("trade", 1, 1, 1, 0)));
        CHECK.same("8: truncate(8) of 7 bytes changes nothing", before, Snapshot.whole(() -> after("truncate", 8)));
        CHECK.same("8: truncate(-1) changes nothing", before, Snapshot.whole(() -> after("truncate", -1)));
        CHECK.same("8: no such team changes nothing", before, Snapshot.whole(() -> after("teamRank", 0, 3)));
        CHECK.same("8: no such player changes nothing", before, Snapshot.whole(() -> after("playerRank", 5)));
        CHECK.same("8: the mean of nobody changes nothing", before, Snapshot.whole(() -> after("meanSalary", 2)));
    }

    private static String busyText(int cap) {
        return "league " + cap + " 300 100 70 60;bracket 10 150;bracket 5 300;teams 3;players 5;contract 0 0 200 10 3 100 2;"
                + "contract 1 0 150 0 4 0 4;contract 2 1 250 5 2 7 0;contract 3 1 90 20 5 50 5;";
    }

    private static SalaryCapLedger after(String name, Object... arguments) {
        SalaryCapLedger x = busy();
        answer(x, name, arguments);
        return x;
    }

    private static void errorsChangeNothing() {
        refused(900, "-2", "sign", 0, 2, 3);
        refused(900, "-4", "sign", 0, 1, 3);
        refused(900, "-4", "sign", 0, 1, 2);
        refused(900, "-2", "release", 1, true);
        refused(900, "-2", "trade", 0, 0, 1, 0);
        refused(900, "-3", "trade", 0, 1, 1, 0);
        refused(100, "-4", "sign", 0, 1, 0);
        refused(100, "-5", "trade", 0, 1, 1, 4);
        refused(100, "-6", "trade", 1, 4, 0, 1);
        String full = Snapshot.whole(() -> fullTeam());
        CHECK.is("8: the error of sign", -3, () -> fullTeam().sign(0, 12, 0));
        CHECK.is("8: the error of trade", -4, () -> fullTeam().trade(1, 1 << 13, 0, 0));
        CHECK.same("8 'or returns such an error changes nothing': sign -3", full, Snapshot.whole(() -> {
            SalaryCapLedger x = fullTeam();
            x.sign(0, 12, 0);
            return x;
        }));
        CHECK.same("8 'or returns such an error changes nothing': trade -4", full, Snapshot.whole(() -> {
            SalaryCapLedger x = fullTeam();
            x.trade(1, 1 << 13, 0, 0);
            return x;
        }));
    }

    private static SalaryCapLedger fullTeam() {
        StringBuilder text = new StringBuilder("league 900 300 100 70 60;bracket 10 150;teams 2;players 14;contract 13 1 5 0 3 9 0;");
        for (int k = 0; k < 12; k++) {
            text.append("contract ").append(k).append(" 0 9 0 3 9 1;");
        }
        SalaryCapLedger x = Check.league(text.toString());
        x.makeOffer(3, 0, 2, 0, 1);
        return x;
    }

    private static void refused(int cap, String due, String name, Object... arguments) {
        CHECK.outcome("8: the error of " + name, due, answer(busy(cap), name, arguments));
        CHECK.same("8 'or returns such an error changes nothing': " + name + " " + due, Snapshot.whole(() -> busy(cap)),
                Snapshot.whole(() -> {
                    SalaryCapLedger x = busy(cap);
                    answer(x, name, arguments);
                    return x;
                }));
    }

    private static void queriesChangeNothing() {
        String before = Snapshot.whole(() -> busy());
        String actions = " makeOffer sign release trade nextYear undo ";
        for (Form form : forms(3, 5)) {
            if (!actions.contains(" " + form.name + " ")) {
                CHECK.same(form.promise() + ", 8 'All methods except the actions change nothing'", before,
                        Snapshot.whole(() -> after(form.name, form.ordinary())));
            }
        }
        CHECK.same("P5 errorPosition, 8 'All methods except the actions change nothing'", before, Snapshot.whole(() -> after("errorPosition")));
        CHECK.same("8: the tenth player's release set changes nothing", before, Snapshot.whole(() -> after("releaseSet", 1)));
        CHECK.same("8: a possible swap changes nothing", before, Snapshot.whole(() -> after("bestSwap", 1, 0)));
        CHECK.same("8: a possible trade changes nothing", before, Snapshot.whole(() -> after("tradeCode", 0, 4, 1, 8)));
    }

    /** What an object answers in its 512th call is what it answers at once. */
    private static void theLatestCall() {
        int calls = Check.callsOfLeague(busyText(900)) + 10;
        for (Form form : forms(3, 5)) {
            SalaryCapLedger x = busy();
            for (int k = calls; k < LIMIT - 1; k++) {
                x.year();
            }
            CHECK.outcome(form.promise() + ", 'at most 512 calls': the 512th", answer(busy(), form.name, form.ordinary()),
                    answer(x, form.name, form.ordinary()));
        }
        SalaryCapLedger texts = new SalaryCapLedger();
        for (int k = 0; k < 45; k++) {
            texts.append(0x20202020, 0x20202020, 0x20202020, 0x20202020, 0x20202020);
        }
        for (int k = 45; k < LIMIT - 1; k++) {
            CHECK.outcome("P2: refused again and again", "IllegalStateException", answer(texts, "append", 0, 0, 0, 0, 0));
        }
        CHECK.is("P4: the 512th call is load()", -11, () -> texts.load());
        SalaryCapLedger acts = sized(3, 5).make();
        for (int k = Check.callsOfLeague(sizedText(3, 5)); k < LIMIT - 2; k++) {
            acts.makeOffer(k, 0, 1, 0, 0);
        }
        CHECK.is("P40: the 511th call is undo() after some 500 actions", 9, () -> acts.undo());
        CHECK.is("P40: the 512th call tells that it undid the last one", LIMIT - 4, () -> acts.offer(0));
        SalaryCapLedger loads = new SalaryCapLedger();
        for (int k = 0; k < LIMIT - 1; k++) {
            loads.load();
        }
        CHECK.is("P5: the 512th call is errorPosition() after load() alone", 0, () -> loads.errorPosition());
    }

    private static void undoOfEachAction() {
        Snapshot.Scene[] acted = {
            () -> after("makeOffer", 7, 8, 5, 9, 5), () -> after("sign", 2, 1, 0), () -> after("sign", 2, 1, 1),
            () -> after("release", 0, false), () -> after("release", 3, true), () -> after("trade", 1, 1, 0, 4),
            () -> after("nextYear")
        };
        String before = Snapshot.league(() -> busy());
        for (int k = 0; k < acted.length; k++) {
            Snapshot.Scene scene = acted[k];
            CHECK.outcome("P40: action " + k + " did something", "yes", Snapshot.league(scene).equals(before) ? "no" : "yes");
            CHECK.is("P40 'the number of actions that can still be undone'", 6, () -> scene.make().undo());
            CHECK.same("P40 'Everything is as before that action': action " + k, before, Snapshot.league(() -> {
                SalaryCapLedger x = scene.make();
                x.undo();
                return x;
            }));
        }
        SalaryCapLedger x = busy();
        for (int left = 5; left >= 0; left--) {
            int still = left;
            CHECK.is("P40: undone one by one", still, () -> x.undo());
        }
        CHECK.is("P40 '-2 if there is no action to undo'", -2, () -> x.undo());
        CHECK.is("P40 '-2 if there is no action to undo', again", -2, () -> x.undo());
    }

    private static void undoLeavesTheText() {
        SalaryCapLedger x = sized(3, 5).make();
        x.makeOffer(5, 0, 1, 0, 0);
        Check.feed(x, "league x");
        x.load();
        x.append(0x20202020, 0x20202020, 0x20202020, 0x20202020, 0x20202020);
        CHECK.is("P40: the action before a wrong text", 0, () -> x.undo());
        CHECK.is("P40 'except errorPosition()'", 7, () -> x.errorPosition());
        CHECK.is("P40 'except the text buffer'", 20, () -> x.truncate(20));
        CHECK.is("P40: the offer is undone", 1, () -> x.offer(0));
        x.truncate(0);
        Check.feed(x, "league 9 9 0 0 1;bracket 1 1;teams 1;players 1;");
        x.load();
        x.makeOffer(5, 0, 1, 0, 0);
        x.load();
        x.undo();
        CHECK.is("P40 'except errorPosition()': no text", 0, () -> x.errorPosition());
    }

    private static SalaryCapLedger offers(int count) {
        SalaryCapLedger x = sized(3, 5).make();
        for (int k = 1; k <= count; k++) {
            x.makeOffer(100 + k, 0, 1, 0, 0);
        }
        return x;
    }

    private static void undoAll(String what, SalaryCapLedger x, int actions, int first) {
        for (int left = actions - 1; left >= 0; left--) {
            int still = left;
            CHECK.is(what + ": undo()", still, () -> x.undo());
            CHECK.is(what + ": the offer before", still + first, () -> x.offer(0));
        }
        CHECK.is(what + ": no action to undo", -2, () -> x.undo());
        CHECK.is(what + ": the offer stays", first, () -> x.offer(0));
    }

    private static void tenActions() {
        SalaryCapLedger x = offers(9);
        x.undo();
        CHECK.is("8, nine actions: eight are left", 7, () -> x.undo());
        SalaryCapLedger ten = offers(10);
        for (int left = 9; left >= 0; left--) {
            int still = left;
            CHECK.is("8 'The latest 10 actions are remembered': ten", still, () -> ten.undo());
            CHECK.is("8: the offer before", still == 0 ? 1 : 100 + still, () -> ten.offer(0));
        }
        CHECK.is("8: no action to undo", -2, () -> ten.undo());
    }

    private static void elevenActions() {
        undoAll("8 'The latest 10 actions are remembered': eleven", offers(11), 10, 101);
        undoAll("8 'The latest 10 actions are remembered': twelve", offers(12), 10, 102);
        undoAll("8 'The latest 10 actions are remembered': twenty-one", offers(21), 10, 111);
        undoAll("8 'The latest 10 actions are remembered': forty-nine", offers(49), 10, 139);
    }

    private static void undoAndActAgain() {
        SalaryCapLedger x = offers(11);
        for (int k = 0; k < 4; k++) {
            x.undo();
        }
        CHECK.is("P40: four of ten undone", 107, () -> x.offer(0));
        for (int k = 8; k <= 11; k++) {
            x.makeOffer(100 + k, 0, 1, 0, 0);
        }
        undoAll("P40 'the latest action that was not undone yet': four undone, four done", x, 10, 101);
        SalaryCapLedger y = offers(11);
        y.undo();
        y.undo();
        for (int k = 10; k <= 12; k++) {
            y.makeOffer(100 + k, 0, 1, 0, 0);
        }
        undoAll("8: two undone, three done, the first is forgotten", y, 10, 102);
        SalaryCapLedger z = offers(11);
        for (int k = 0; k < 11; k++) {
            z.undo();
        }
        z.makeOffer(102, 0, 1, 0, 0);
        undoAll("P40: all undone, one done", z, 1, 101);
    }

    private static void actionsThatFailed() {
        SalaryCapLedger x = offers(11);
        x.sign(0, 0, 0);
        x.release(4, true);
        x.trade(0, 0, 1, 0);
        answer(x, "makeOffer", 0, 0, 1, 0, 0);
        answer(x, "release", 5, true);
        x.undo();
        CHECK.is("8 'each action that succeeds can be undone': not those that failed", 110, () -> x.offer(0));
        CHECK.is("8: those that failed push nothing out", 8, () -> x.undo());
    }

    private static void loadsAndActions() {
        SalaryCapLedger x = offers(11);
        Check.feed(x, "league 9 9 0 0 1;bracket 1 1;teams 1;players 1;");
        x.load();
        CHECK.is("P4 'no action can be undone'", -2, () -> x.undo());
        x.makeOffer(4, 0, 1, 0, 0);
        x.makeOffer(5, 0, 1, 0, 0);
        CHECK.is("P40: actions after load() can be undone", 1, () -> x.undo());
        CHECK.is("P40: to the offer before", 4, () -> x.offer(0));
        CHECK.is("P40: to the first one", 0, () -> x.undo());
        CHECK.is("P40: no further", -2, () -> x.undo());
        CHECK.is("P40: the league is the new one", 9, () -> x.cap(0));
    }
}
