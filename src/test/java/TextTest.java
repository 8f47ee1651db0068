/** Promises 1 to 5: the new object, the text buffer, and the errors of a league text. */
public final class TextTest {
    private static final Check CHECK = new Check();
    private static final String LEAGUE = "league 100 100 0 0 1;";
    private static final String HEAD = LEAGUE + "bracket 1 0;teams 2;players 14;";

    public static void main(String[] args) {
        newObject();
        append();
        truncate();
        load();
        replacedLeague();
        wrongTokens();
        wrongNumbers();
        fifthBracket();
        takenPlaces();
        cutTexts();
        CHECK.finish("TextTest");
    }

    private static void newObject() {
        SalaryCapLedger x = new SalaryCapLedger();
        CHECK.is("a new buffer is empty", 0, () -> x.truncate(0));
        CHECK.illegal("a new buffer is empty", () -> x.truncate(1));
        CHECK.is("no load yet", SalaryCapLedger.NONE, () -> x.errorPosition());
        withoutLeague(x);
        x.append(0, 0, 0, 0, 0);
        x.load();
        withoutLeague(x);
    }

    /** The league is asked for first: the arguments are out of their ranges, too. */
    private static void withoutLeague(SalaryCapLedger x) {
        Check.Call[] calls = {
            () -> x.makeOffer(0, -1, 9, 0, 0), () -> x.sign(-1, 99, 4), () -> x.release(-1, true),
            () -> x.trade(0, 0, 0, 0), () -> x.nextYear(), () -> x.year(), () -> x.cap(-1), () -> x.taxLine(12),
            () -> x.offer(5), () -> x.charge(-1, 0), () -> x.deadMoney(0, -1), () -> x.room(4), () -> x.tax(-1),
            () -> x.paid(-1), () -> x.taxedYears(-1), () -> x.midLevel(-1), () -> x.roster(-1),
            () -> x.teamRank(9, -1), () -> x.playerValue(0, 7), () -> x.salary(-1, 0), () -> x.share(-1, 0),
            () -> x.playerRank(-1), () -> x.meanSalary(9), () -> x.signCode(-1, 0, 0), () -> x.bestRule(-1, 0),
            () -> x.greatestBase(0, 0, 4), () -> x.releaseCost(0, true, 12), () -> x.releaseGain(-1, true),
            () -> x.fewestReleases(-1), () -> x.releaseSet(-1), () -> x.tradeCode(0, 0, 0, 0),
            () -> x.swapCount(0, 0), () -> x.bestSwap(0, 0), () -> x.taxAhead(0, 0), () -> x.undo()
        };
        for (int k = 0; k < calls.length; k++) {
            CHECK.refuses("without a league: call " + k, IllegalStateException.class, calls[k]);
        }
    }

    private static void append() {
        SalaryCapLedger x = new SalaryCapLedger();
        for (int length = 20; length <= 900; length += 20) {
            CHECK.is("append", length, () -> x.append(0x20202020, 0x20202020, 0x0a0a0a0a, 0x20202020, 0x20202020));
        }
        CHECK.refuses("append to a full buffer", IllegalStateException.class, () -> x.append(0, 0, 0, 0, 0));
        CHECK.is("nothing was appended", 881, () -> x.truncate(881));
        CHECK.refuses("append to 881 bytes", IllegalStateException.class, () -> x.append(0, 0, 0, 0, 0));
        CHECK.is("truncate to 880", 880, () -> x.truncate(880));
        CHECK.is("append to 880 bytes", 900, () -> x.append(0x20202020, 0x20202020, 0x20202020, 0x20202020, 0x20202020));
        CHECK.is("blanks alone", -11, () -> x.load());
        CHECK.is("the end of the text", 900, () -> x.errorPosition());
        x.append(0x20202020, 0x20202020, 0x20202020, 0x20202020, 0x202020ff);
        CHECK.is("a high byte", -11, () -> x.load());
        CHECK.is("the last byte of e comes last", 19, () -> x.errorPosition());
        x.append(0x20202020, 0x20202020, 0x20202020, 0x20412020, 0x20202041);
        CHECK.is("a capital letter", -11, () -> x.load());
        CHECK.is("the second byte of d", 13, () -> x.errorPosition());
    }

    private static void truncate() {
        SalaryCapLedger x = new SalaryCapLedger();
        Check.feed(x, "league");
        CHECK.illegal("truncate to more", () -> x.truncate(7));
        CHECK.illegal("truncate to less than nothing", () -> x.truncate(-1));
        CHECK.is("truncate to the same", 6, () -> x.truncate(6));
        CHECK.is("truncate to none", 0, () -> x.truncate(0));
        CHECK.illegal("truncate to more than none", () -> x.truncate(1));
    }

    private static void load() {
        correct(0, HEAD);
        correct(0, " \n league 999999 1 200 99999 99999\n;bracket 99999 900;bracket 1 0;bracket 1 0;bracket 1 0;teams 4;players 24; ");
        correct(0, "league000100 000100 000000 0 1;bracket 1 0;teams 1;players 1;");
        correct(1, HEAD + "contract 13 1 99999 20 5 99999 5;");
        correct(2, HEAD + "contract 0 0 1 0 1 0 0;\ncontract 1 0 1 0 1 0 1;\n");
        correct(13, HEAD + twelve() + "contract 12 1 1 0 1 0 0;");
        SalaryCapLedger x = Check.league(HEAD);
        CHECK.illegal("the buffer is empty after load", () -> x.truncate(1));
        CHECK.is("load again", -11, () -> x.load());
        CHECK.is("its position", 0, () -> x.errorPosition());
        CHECK.is("the league is still there", 0, () -> x.year());
        x.append(0x41414141, 0, 0, 0, 0);
        x.load();
        CHECK.illegal("the buffer is empty after a wrong text", () -> x.truncate(1));
    }

    private static void replacedLeague() {
        SalaryCapLedger x = Check.league("league 100 100 0 50 1;bracket 9 100;teams 2;players 3;contract 0 0 200 0 3 10 3;");
        x.makeOffer(20, 0, 1, 0, 0);
        x.sign(1, 1, 1);
        x.nextYear();
        x.release(0, false);
        Check.feed(x, LEAGUE);
        CHECK.is("a text without an end", -11, () -> x.load());
        CHECK.is("its position", LEAGUE.length(), () -> x.errorPosition());
        CHECK.is("the year stays", 1, () -> x.year());
        CHECK.is("the actions stay", 3, () -> x.undo());
        Check.feed(x, "league 100 100 0 60 1;bracket 9 100;teams 2;players 3;contract 2 1 5 0 3 10 3;");
        CHECK.is("the next league", 1, () -> x.load());
        CHECK.is("no error", SalaryCapLedger.NONE, () -> x.errorPosition());
        CHECK.is("its year", 0, () -> x.year());
        CHECK.is("its dead money", 0, () -> x.deadMoney(0, 1));
        CHECK.is("its taxes", 0, () -> x.paid(0));
        CHECK.is("its taxed years", 0, () -> x.taxedYears(0));
        CHECK.is("its offer", 1, () -> x.offer(0));
        CHECK.is("its amounts", 60, () -> x.midLevel(1));
        CHECK.is("its last team", 1, () -> x.playerValue(2, 1));
        CHECK.is("no last team", -1, () -> x.playerValue(0, 1));
        CHECK.is("no tenure", 0, () -> x.playerValue(0, 2));
        CHECK.is("nothing to undo", -2, () -> x.undo());
    }

    private static void wrongTokens() {
        wrong(1, 0, "");
        wrong(1, 0, "@league 1");
        wrong(1, 1, " leagues 100");
        wrong(1, 0, "leagu 100");
        wrong(1, 0, "leaguez 100");
        wrong(1, 0, "aleague 100");
        wrong(1, 6, "league` 100");
        wrong(1, 6, "league{ 100");
        wrong(1, 7, "league /1");
        wrong(1, 7, "league :1");
        wrong(1, 0, "Xleague 100");
        wrong(1, 6, "leagueX 100");
        wrong(1, 6, "league\t100");
        wrong(1, 7, "league ;");
        wrong(1, 7, "league 1000000 100");
        wrong(1, 7, "league 0000001 100");
        wrong(1, 11, "league 100 league");
        wrong(1, 21, "league 100 100 0 0 1 1;");
        wrong(1, 20, "league 100 100 0 0 1");
        wrong(1, 21, LEAGUE);
        wrong(1, 24, LEAGUE + "   ");
        wrong(1, 21, LEAGUE + "teams 2;");
        wrong(1, 21, LEAGUE + ";bracket 1 0;");
        wrong(1, 33, LEAGUE + "bracket 1 0;players 2;");
        wrong(1, 41, LEAGUE + "bracket 1 0;teams 2;bracket 1 0;");
        wrong(1, 41, LEAGUE + "bracket 1 0;teams 2;teams 2;");
        wrong(1, HEAD.length(), HEAD + "7");
        wrong(1, HEAD.length(), HEAD + "\0");
        wrong(1, HEAD.length(), HEAD + ";");
        wrong(1, HEAD.length(), HEAD + "players 2;");
        wrong(1, HEAD.length() + 22, HEAD + "contract 0 0 1 0 1 0 0");
        wrong(1, HEAD.length() + 9, HEAD + "contract 1111111 0 1 0 1 0 0;");
        wrong(1, HEAD.length() + 9, HEAD + "contract -1 0 1 0 1 0 0;");
    }

    private static void wrongNumbers() {
        wrong(2, 7, "league 0 100 0 0 1;");
        wrong(2, 11, "league 100 0 0 0 1;");
        wrong(2, 15, "league 100 100 201 0 1;");
        wrong(2, 17, "league 100 100 0 100000 1;");
        wrong(2, 19, "league 100 100 0 0 0;");
        wrong(2, 19, "league 100 100 0 0 100000;");
        wrong(2, 29, LEAGUE + "bracket 0 0;");
        wrong(2, 29, LEAGUE + "bracket 100000 @");
        wrong(2, 31, LEAGUE + "bracket 1 901;");
        wrong(2, 39, LEAGUE + "bracket 1 0;teams 0;");
        wrong(2, 39, LEAGUE + "bracket 1 0;teams 5;");
        wrong(2, 49, LEAGUE + "bracket 1 0;teams 2;players 0;");
        wrong(2, 49, LEAGUE + "bracket 1 0;teams 2;players 25;");
        wrong(2, HEAD.length() + 9, HEAD + "contract 14 0 1 0 1 0 0;");
        wrong(2, HEAD.length() + 11, HEAD + "contract 0 2 1 0 1 0 0;");
        wrong(2, HEAD.length() + 13, HEAD + "contract 0 0 0 0 1 0 0;");
        wrong(2, HEAD.length() + 13, HEAD + "contract 0 0 100000 0 1 0 0;");
        wrong(2, HEAD.length() + 15, HEAD + "contract 0 0 1 21 1 0 0;");
        wrong(2, HEAD.length() + 17, HEAD + "contract 0 0 1 0 0 0 0;");
        wrong(2, HEAD.length() + 17, HEAD + "contract 0 0 1 0 6 0 0;");
        wrong(2, HEAD.length() + 19, HEAD + "contract 0 0 1 0 1 100000 0;");
        wrong(2, HEAD.length() + 21, HEAD + "contract 0 0 1 0 1 0 2;");
    }

    private static void fifthBracket() {
        String four = LEAGUE + "bracket 1 0;bracket 1 0;bracket 1 0;bracket 1 0;";
        wrong(3, four.length(), four + "bracket 1 0;");
        wrong(3, four.length() + 1, four + " bracket");
        wrong(1, four.length(), four + "brackets 1 0;");
        wrong(1, four.length() + 8, four + "teams 2;bracket 1 0;");
        correct(0, four + "teams 1;players 1;");
    }

    private static void takenPlaces() {
        String one = HEAD + "contract 3 0 1 0 1 0 0;";
        wrong(4, one.length() + 9, one + "contract 3 1 1 0 1 0 0;");
        wrong(4, one.length() + 9, one + "contract 3 @");
        String full = HEAD + twelve();
        wrong(4, full.length() + 12, full + "contract 12 0 1 0 1 0 0;");
        wrong(4, full.length() + 9, full + "contract 11 0 1 0 1 0 0;");
        correct(13, full + "contract 12 1 1 0 1 0 0;");
    }

    /** What was cut off is still in the buffer's bytes, but no part of the text. */
    private static void cutTexts() {
        cut(1, HEAD.length() - 2, 2);
        cut(1, HEAD.length() - 3, 3);
        cut(1, 0, HEAD.length() - 5);
        cut(1, HEAD.length() - 1, 1);
        SalaryCapLedger x = new SalaryCapLedger();
        Check.feed(x, HEAD + "contract 0 0 1 0 1 0 0;");
        x.truncate(HEAD.length());
        CHECK.is("a text in front of what was cut off", 0, () -> x.load());
    }

    private static void cut(int code, int position, int bytes) {
        SalaryCapLedger x = new SalaryCapLedger();
        Check.feed(x, HEAD);
        x.truncate(HEAD.length() - bytes);
        CHECK.is("load without the last " + bytes, -10 - code, () -> x.load());
        CHECK.is("errorPosition without the last " + bytes, position, () -> x.errorPosition());
    }

    private static String twelve() {
        StringBuilder text = new StringBuilder();
        for (int k = 0; k < 12; k++) {
            text.append("contract ").append(k).append(" 0 1 0 1 0 0;");
        }
        return text.toString();
    }

    private static void correct(int contracts, String text) {
        SalaryCapLedger x = new SalaryCapLedger();
        Check.feed(x, text);
        CHECK.is("load of " + text, contracts, () -> x.load());
        CHECK.is("errorPosition of " + text, -1, () -> x.errorPosition());
        CHECK.is("year of " + text, 0, () -> x.year());
    }

    private static void wrong(int code, int position, String text) {
        SalaryCapLedger x = new SalaryCapLedger();
        Check.feed(x, text);
        CHECK.is("load of " + text, -10 - code, () -> x.load());
        CHECK.is("errorPosition of " + text, position, () -> x.errorPosition());
        CHECK.refuses("year of " + text, IllegalStateException.class, () -> x.year());
    }
}
