/** "2 LEAGUE TEXT": each sentence that names a boundary case. A check's name begins with the sentence that it is for. */
public final class TextEdgesTest {
    private static final Check CHECK = new Check();
    /** A correct text of which each token is known by its number. */
    private static final String[] TOKENS = ("league 100 200 50 30 10 ; bracket 40 150 ; teams 2 ; players 3 ; "
            + "contract 0 0 70 5 2 9 1 ;").split(" ");
    private static final String LEAGUE = "league 100 100 0 0 1;";
    private static final String BRACKET = "bracket 1 0;";
    private static final String TEAMS = "teams 2;";
    private static final String PLAYERS = "players 14;";
    private static final String HEAD = LEAGUE + BRACKET + TEAMS + PLAYERS;
    private static final String CONTRACT = "contract 0 0 1 0 1 0 0;";

    public static void main(String[] args) {
        rangesOfNumbers();
        rangesThatHangOnNumbers();
        numbersOfTeamsAndPlayers();
        numbersAreTakenOver();
        statementsInTheirOrder();
        numberOfBrackets();
        anyNumberOfContracts();
        wrongTokenAtEachPlace();
        keywords();
        longestNumber();
        blanksAndLineFeeds();
        bytesThatBeginNoToken();
        endOfTheText();
        cutAtEachByte();
        fifthBracket();
        playerWithContract();
        fullTeam();
        severalErrors();
        CHECK.finish("TextEdgesTest");
    }

    private static void rangesOfNumbers() {
        range("league C (1 to 999999)", 1, 1, 999999);
        range("league X (1 to 999999)", 2, 1, 999999);
        range("league G (0 to 200 permille)", 3, 0, 200);
        range("league M (0 to 99999)", 4, 0, 99999);
        range("league N (1 to 99999)", 5, 1, 99999);
        range("bracket S (1 to 99999)", 8, 1, 99999);
        range("bracket R (0 to 900 percent)", 9, 0, 900);
        range("teams T (1 to 4)", 12, 1, 4);
        range("players P (1 to 24)", 15, 1, 24);
        range("contract P (0 to 2 of 3 players)", 18, 0, 2);
        range("contract T (0 to 1 of 2 teams)", 19, 0, 1);
        range("contract B (1 to 99999)", 20, 1, 99999);
        range("contract A (0 to 20 percent)", 21, 0, 20);
        range("contract L (1 to 5 years)", 22, 1, 5);
        range("contract S (0 to 99999)", 23, 0, 99999);
        range("contract G (0 to L)", 24, 0, 2);
    }

    private static void range(String what, int token, int least, int greatest) {
        correct(what + ", the least", 1, textWith(token, String.valueOf(least)));
        correct(what + ", the least in six digits", 1, textWith(token, String.format("%06d", least)));
        correct(what + ", the greatest", 1, textWith(token, String.valueOf(greatest)));
        for (int value : new int[] {least - 1, greatest + 1, 2 * greatest + 256, 999999}) {
            if (value >= 0 && value <= 999999 && (value < least || value > greatest)) {
                wrong("error 2: " + what + ", " + value, 2, positionOf(token), textWith(token, String.valueOf(value)));
            }
        }
        wrong("error 1: " + what + ", 1000000", 1, positionOf(token), textWith(token, "1000000"));
        wrong("error 1: " + what + ", negative", 1, positionOf(token), textWith(token, "-1"));
    }

    private static void rangesThatHangOnNumbers() {
        for (int length = 1; length <= 5; length++) {
            String front = HEAD + "contract 0 0 1 0 " + length + " 0 ";
            correct("contract G (0 to L), 0 of " + length, 1, front + "0;");
            correct("contract G (0 to L), all of " + length, 1, front + length + ";");
            wrong("error 2: contract G (0 to L), one above " + length, 2, front.length(), front + (length + 1) + ";");
        }
    }

    private static void numbersOfTeamsAndPlayers() {
        for (int teams = 1; teams <= 4; teams++) {
            String front = LEAGUE + BRACKET + "teams " + teams + ";players 2;contract 0 ";
            correct("the last of " + teams + " teams", 1, front + (teams - 1) + " 1 0 1 0 0;");
            wrong("error 2: a team that does not exist, of " + teams, 2, front.length(), front + teams + " 1 0 1 0 0;");
        }
        for (int players : new int[] {1, 2, 11, 12, 23, 24}) {
            String front = LEAGUE + BRACKET + "teams 2;players " + players + ";contract ";
            correct("the last of " + players + " players", 1, front + (players - 1) + " 0 1 0 1 0 0;");
            wrong("error 2: a player who does not exist, of " + players, 2, front.length(), front + players + " 0 1 0 1 0 0;");
        }
    }

    /** The least and the greatest numbers are not only accepted: they come to stand where they belong. */
    private static void numbersAreTakenOver() {
        SalaryCapLedger least = Check.league("league 1 1 0 0 1;bracket 1 0;teams 1;players 1;contract 0 0 1 0 1 0 0;");
        takenOver(least, new double[] {1, 1, 1, 0, 0, 1, 1, 1, 0, 0, 0, 1, 0});
        SalaryCapLedger greatest = Check.league("league 999999 999999 200 99999 99999;bracket 99999 900;teams 4;"
                + "players 24;contract 0 0 99999 20 5 99999 5;");
        takenOver(greatest, new double[] {999999, 999999, 1199998, 99999, 0, 99999, 119998, 5, 99999, 5, 20000, 15, 0});
        SalaryCapLedger teams = Check.league("league 9 9 0 0 1;bracket 9 900;teams 4;players 24;contract 23 3 109 0 1 0 0;");
        CHECK.is("teams T, players P: player 23 of team 3", 1 << 23, () -> teams.roster(3));
        CHECK.is("bracket R: 900 percent", 900, () -> teams.tax(3));
        CHECK.illegal("teams T: no fifth team", () -> teams.roster(4));
        CHECK.illegal("players P: no twenty-fifth player", () -> teams.salary(24, 0));
        SalaryCapLedger one = Check.league("league 9 9 0 0 1;bracket 9 0;teams 1;players 1;");
        CHECK.illegal("teams 1: no second team", () -> one.roster(1));
        CHECK.illegal("players 1: no second player", () -> one.salary(1, 0));
    }

    private static void takenOver(SalaryCapLedger x, double[] due) {
        int second = due[7] > 1 ? 1 : 0;
        CHECK.is("league C is the cap of year 0", due[0], () -> x.cap(0));
        CHECK.is("league X is the tax line of year 0", due[1], () -> x.taxLine(0));
        CHECK.is("league G is the growth", due[2], () -> x.cap(1));
        CHECK.is("league M is the mid-level amount", due[3], () -> x.midLevel(0));
        CHECK.is("contract T is the team", due[4], () -> x.playerValue(0, 0));
        CHECK.is("contract B is the base salary", due[5], () -> x.salary(0, 0));
        CHECK.is("contract A is the raise", due[6], () -> second == 0 ? x.salary(0, 0) : x.salary(0, 1));
        CHECK.is("contract L is the length", due[7], () -> x.playerValue(0, 4));
        CHECK.is("contract S is the bonus", due[8], () -> x.playerValue(0, 6));
        CHECK.is("contract G is the number of guaranteed years", due[9], () -> x.playerValue(0, 5));
        CHECK.is("contract S is shared", due[10], () -> x.share(0, 0));
        x.release(0, false);
        CHECK.is("league N is the minimum salary", due[5], () -> x.greatestBase(0, 0, 2));
    }

    private static void statementsInTheirOrder() {
        wrong("in this order: brackets first", 1, 0, BRACKET + LEAGUE + TEAMS + PLAYERS);
        wrong("in this order: teams first", 1, 0, TEAMS + LEAGUE + BRACKET + PLAYERS);
        wrong("in this order: a contract first", 1, 0, CONTRACT + HEAD);
        wrong("in this order: the league twice", 1, LEAGUE.length(), LEAGUE + LEAGUE + BRACKET + TEAMS + PLAYERS);
        wrong("in this order: teams before brackets", 1, LEAGUE.length(), LEAGUE + TEAMS + BRACKET + PLAYERS);
        wrong("in this order: players before teams", 1, 33, LEAGUE + BRACKET + PLAYERS + TEAMS);
        wrong("in this order: no teams", 1, 33, LEAGUE + BRACKET + PLAYERS);
        wrong("in this order: the league between", 1, 33, LEAGUE + BRACKET + LEAGUE + TEAMS + PLAYERS);
        wrong("in this order: a contract before teams", 1, 33, LEAGUE + BRACKET + CONTRACT + TEAMS + PLAYERS);
        wrong("in this order: teams twice", 1, 41, LEAGUE + BRACKET + TEAMS + TEAMS + PLAYERS);
        wrong("in this order: a contract before players", 1, 41, LEAGUE + BRACKET + TEAMS + CONTRACT + PLAYERS);
        for (String late : new String[] {LEAGUE, BRACKET, TEAMS, PLAYERS}) {
            wrong("in this order: again behind the players", 1, HEAD.length(), HEAD + late);
            String whole = HEAD + CONTRACT;
            wrong("in this order: again behind a contract", 1, whole.length(), whole + late);
        }
        wrong("a statement ends with a semicolon: one more", 1, LEAGUE.length(), LEAGUE + ";" + BRACKET + TEAMS + PLAYERS);
    }

    private static void numberOfBrackets() {
        wrong("bracket, 1 to 4 statements: none", 1, LEAGUE.length(), LEAGUE + TEAMS + PLAYERS);
        for (int count = 1; count <= 4; count++) {
            correct("bracket, 1 to 4 statements: " + count, 0, LEAGUE + BRACKET.repeat(count) + TEAMS + PLAYERS);
        }
        wrong("bracket, 1 to 4 statements: five", 3, LEAGUE.length() + 4 * BRACKET.length(),
                LEAGUE + BRACKET.repeat(5) + TEAMS + PLAYERS);
    }

    private static void anyNumberOfContracts() {
        correct("contract, any number: none", 0, HEAD);
        correct("contract, any number: one", 1, HEAD + CONTRACT);
        String all = LEAGUE + BRACKET + TEAMS + "players 24;" + contracts(0, 12, 0) + contracts(12, 24, 1);
        correct("contract, any number: one for each of 24 players", 24, all);
        wrong("contract, any number: a twenty-fifth", 4, all.length() + 9, all + "contract 23 0 1 0 1 0 0;");
    }

    private static void wrongTokenAtEachPlace() {
        for (int token = 0; token < TOKENS.length; token++) {
            for (String other : new String[] {"wrong", "7", ";", "-"}) {
                if (kindOf(other) != kindOf(TOKENS[token]) || kindOf(other) == 'a') {
                    wrong("error 1: " + other + " for token " + token, 1, positionOf(token), textWith(token, other));
                }
            }
        }
    }

    private static char kindOf(String token) {
        char first = token.charAt(0);
        return first >= 'a' && first <= 'z' ? 'a' : first >= '0' && first <= '9' ? '0' : first;
    }

    private static void keywords() {
        for (int token : new int[] {0, 7, 11, 14, 17}) {
            String word = TOKENS[token];
            String place = "keyword: lower-case letters, as many as follow one another: " + word;
            wrong(place + ", one letter more", 1, positionOf(token), textWith(token, word + "s"));
            wrong(place + ", one letter before", 1, positionOf(token), textWith(token, "a" + word));
            wrong(place + ", one letter less", 1, positionOf(token), textWith(token, word.substring(0, word.length() - 1)));
            wrong(place + ", the last letter another", 1, positionOf(token),
                    textWith(token, word.substring(0, word.length() - 1) + "z"));
            wrong(place + ", the first letter another", 1, positionOf(token), textWith(token, "z" + word.substring(1)));
            wrong(place + ", a blank within", 1, positionOf(token), textWith(token, word.charAt(0) + " " + word.substring(1)));
            wrong(place + ", a great letter in front", 1, positionOf(token),
                    textWith(token, Character.toUpperCase(word.charAt(0)) + word.substring(1)));
            wrong(place + ", a great letter behind", 1, positionOf(token) + word.length(), textWith(token, word + "A"));
        }
        correct("a keyword ends where digits begin", 1, "league100 100 0 0 1;bracket1 0;teams2;players3;contract0 0 1 0 1 0 0;");
        wrong("a number ends where letters begin", 1, 10, "league 100a 100 0 0 1;");
        wrong("a keyword behind a number begins a token", 1, 8, "league 1league");
    }

    private static void longestNumber() {
        correct("a number of six digits", 0, "league 000100 000100 000000 000000 000001;bracket 000001 000000;teams 000002;players 000014;");
        wrong("error 1: seven digits, for all that the value is in the range", 1, 7, "league 0000100 100 0 0 1;");
        wrong("error 1: seven digits, all 0", 1, 15, "league 100 100 0000000 0 1;");
        wrong("error 1: seven digits, value 1000000", 1, 11, "league 100 1000000 0 0 1;");
        wrong("error 1: ten digits, 2 to the 32nd and 1", 1, 7, "league 4294967297 100 0 0 1;");
        wrong("error 1: forty digits", 1, 7, "league " + "1234567890".repeat(4) + " 100 0 0 1;");
        wrong("error 1: seven digits for a keyword", 1, 0, "1234567 100");
        wrong("error 1: seven digits for a semicolon", 1, 21, "league 100 100 0 0 1 0000001;");
        wrong("error 1: seven digits behind all", 1, HEAD.length(), HEAD + "1234567");
        wrong("six digits and one behind a blank are two numbers", 1, 27, "league 000001 1 000001 0 1 1;");
    }

    private static void blanksAndLineFeeds() {
        StringBuilder wide = new StringBuilder("\n ");
        for (String token : TOKENS) {
            wide.append(token).append("\n \n");
        }
        correct("blanks and line feeds before, between and behind tokens", 1, wide.toString());
        correct("no blank where none is needed", 1, "league100 200 50 30 10;bracket40 150;teams2;players3;contract0 0 70 5 2 9 1;");
        correct("line feeds alone between numbers", 1, String.join("\n", TOKENS));
        wrong("a blank parts a number: 1 and 00", 2, 9, "league 1 00 100 0 0 1;" + BRACKET + TEAMS + PLAYERS);
        wrong("a line feed parts a keyword", 1, 0, "lea\ngue 100 100 0 0 1;" + BRACKET + TEAMS + PLAYERS);
        String full = HEAD + " ".repeat(900 - HEAD.length());
        correct("blanks up to the 900th byte", 0, full);
        wrong("error 1 at the 900th byte", 1, 899, full.substring(0, 899) + "x");
    }

    private static void bytesThatBeginNoToken() {
        String text = String.join(" ", TOKENS);
        int semicolon = positionOf(6);
        for (int value = 0; value < 256; value++) {
            char sign = (char) value;
            if (sign == ' ' || sign == '\n') {
                correct("a blank in front", 1, sign + text);
                correct("a blank between", 1, text.substring(0, semicolon) + sign + text.substring(semicolon));
                correct("a blank behind", 1, text + sign);
                correct("a blank behind a keyword", 1, text.replace("league", "league" + sign));
                continue;
            }
            wrong("error 1: byte " + value + " in front", 1, 0, sign + text);
            wrong("error 1: byte " + value + " behind", 1, text.length(), text + sign);
            if (sign != ';') {
                wrong("error 1: byte " + value + " between", 1, semicolon,
                        text.substring(0, semicolon) + sign + " " + text.substring(semicolon));
            }
            boolean letter = sign >= 'a' && sign <= 'z';
            if (sign < '0' || sign > '9') {
                wrong("error 1: byte " + value + " right behind a keyword", 1, letter ? 0 : 6, "league" + sign + text.substring(6));
                wrong("error 1: byte " + value + " right behind a number", 1, 10, "league 100" + sign + text.substring(10));
            }
        }
    }

    private static void endOfTheText() {
        wrong("at the end the position is the length: empty", 1, 0, "");
        wrong("at the end the position is the length: one blank", 1, 1, " ");
        wrong("at the end the position is the length: 900 blanks", 1, 900, " ".repeat(900));
        wrong("at the end the position is the length: behind a keyword", 1, 6, "league");
        wrong("at the end the position is the length: behind blanks", 1, 9, "league   ");
        wrong("at the end the position is the length: behind a number", 1, 20, "league 100 100 0 0 1");
        wrong("at the end the position is the length: no bracket", 1, LEAGUE.length() + 1, LEAGUE + "\n");
        wrong("at the end the position is the length: a bracket, no teams", 1, 33, LEAGUE + BRACKET);
        wrong("at the end the position is the length: four brackets, no teams", 1, 69, LEAGUE + BRACKET.repeat(4));
        wrong("at the end the position is the length: no players", 1, 41, LEAGUE + BRACKET + TEAMS);
        String part = HEAD + CONTRACT.substring(0, CONTRACT.length() - 1) + " \n ";
        wrong("at the end the position is the length: no semicolon", 1, part.length(), part);
    }

    /** Every number's first digits are in its range, too, so that a cut number is no error. */
    private static void cutAtEachByte() {
        String front = "league 11 22 33 44 55;bracket 66 77;teams 2;players 12;";
        String whole = front + "contract 11 1 88 20 5 99 3;";
        for (int length = 0; length < whole.length(); length++) {
            String text = whole.substring(0, length);
            boolean insideWord = length > 0 && isLetter(whole.charAt(length)) && isLetter(whole.charAt(length - 1));
            if (length == front.length()) {
                correct("a text that ends behind the players", 0, text);
            } else {
                wrong("error 1: cut to " + length, 1, insideWord ? text.lastIndexOf(';') + 1 : length, text);
            }
        }
        correct("the whole of it", 1, whole);
    }

    private static boolean isLetter(char sign) {
        return sign >= 'a' && sign <= 'z';
    }

    private static void fifthBracket() {
        String four = LEAGUE + BRACKET.repeat(4);
        wrong("error 3: the keyword of a fifth bracket", 3, four.length(), four + BRACKET + TEAMS + PLAYERS);
        wrong("error 3: the keyword at the end of the text", 3, four.length(), four + "bracket");
        wrong("error 3: the keyword behind blanks", 3, four.length() + 2, four + " \nbracket 0 901;");
        wrong("error 3: before what is wrong in the bracket", 3, four.length(), four + "bracket @");
        wrong("error 1, not 3: another keyword", 1, four.length(), four + "brackets 1 0;");
        wrong("error 1, not 3: a cut keyword", 1, four.length(), four + "bracke");
        wrong("error 1, not 3: behind the teams", 1, four.length() + TEAMS.length(), four + TEAMS + BRACKET);
        wrong("error 2 in the fourth bracket, before error 3", 2, 21 + 36 + 8, LEAGUE + BRACKET.repeat(3) + "bracket 0 0;" + BRACKET);
    }

    private static void playerWithContract() {
        String one = HEAD + "contract 13 0 1 0 1 0 0;";
        wrong("error 4: a player who has one already", 4, one.length() + 9, one + "contract 13 0 1 0 1 0 0;");
        wrong("error 4: a player who has one with the other team", 4, one.length() + 9, one + "contract 13 1 1 0 1 0 0;");
        wrong("error 4: at the first byte of the number", 4, one.length() + 11, one + "contract   000013 1 1 0 1 0 0;");
        wrong("error 4: the text ends behind the player", 4, one.length() + 9, one + "contract 13");
        correct("no error 4: another player", 2, one + "contract 12 0 1 0 1 0 0;");
    }

    private static void fullTeam() {
        String full = HEAD + contracts(0, 12, 1);
        wrong("error 4: a team that has 12 players already", 4, full.length() + 12, full + "contract 12 1 1 0 1 0 0;");
        wrong("error 4: the text ends behind the team", 4, full.length() + 12, full + "contract 12 1");
        correct("a team's twelfth player", 12, full);
        correct("no error 4: the other team", 13, full + "contract 12 0 1 0 1 0 0;");
        String eleven = HEAD + contracts(0, 11, 1);
        correct("no error 4: the twelfth after a player of the other team", 13,
                eleven + "contract 12 0 1 0 1 0 0;contract 13 1 1 0 1 0 0;");
    }

    private static void severalErrors() {
        String one = HEAD + CONTRACT;
        wrong("one position, least code: seven digits out of the range are 1", 1, 7, "league 9999999 100");
        wrong("one position, least code: seven digits of a player with a contract", 1, one.length() + 9, one + "contract 0000000 0 1");
        String full = HEAD + contracts(0, 12, 0);
        wrong("one position, least code: seven digits of a full team", 1, full.length() + 12, full + "contract 12 0000000 1");
        wrong("least position: 4 at the player before 4 at the team", 4, full.length() + 9, full + "contract 11 0 1 0 1 0 0;");
        wrong("least position: 4 at the player before 2 at the team", 4, one.length() + 9, one + "contract 0 9 1 0 1 0 0;");
        wrong("least position: 4 at the team before 2 at the salary", 4, full.length() + 12, full + "contract 12 0 0 0 1 0 0;");
        wrong("least position: 2 at the player before 4 at the team", 2, full.length() + 9, full + "contract 14 0 1 0 1 0 0;");
        wrong("least position: 4 before 1", 4, one.length() + 9, one + "contract 0 ;");
        wrong("least position: 2 before 1", 2, 7, "league 0 wrong");
        wrong("least position: 2 before 2", 2, 7, "league 0 0 999 0 0;");
        wrong("least position: 1 before 2", 1, 7, "league @ 0 999 0 0;");
        wrong("least position: 1 in front of all", 1, 0, "wrong 0 0 999 0 0;");
        wrong("least position: 3 before 2", 3, 69, LEAGUE + BRACKET.repeat(4) + "bracket 0 0;");
        wrong("least position: 2 at the raise before 2 at the length", 2, HEAD.length() + 15, HEAD + "contract 0 0 1 21 6 0 9;");
        wrong("least position: 2 at the length before 2 at the guaranteed years", 2, HEAD.length() + 17, HEAD + "contract 0 0 1 0 6 0 6;");
    }

    private static String contracts(int from, int to, int team) {
        StringBuilder text = new StringBuilder();
        for (int k = from; k < to; k++) {
            text.append("contract ").append(k).append(' ').append(team).append(" 1 0 1 0 0;");
        }
        return text.toString();
    }

    private static String textWith(int token, String other) {
        String[] tokens = TOKENS.clone();
        tokens[token] = other;
        return String.join(" ", tokens);
    }

    private static int positionOf(int token) {
        int position = 0;
        for (int k = 0; k < token; k++) {
            position += TOKENS[k].length() + 1;
        }
        return position;
    }

    private static void correct(String what, int contracts, String text) {
        SalaryCapLedger x = new SalaryCapLedger();
        Check.feed(x, text);
        CHECK.is(what + ": load()", contracts, () -> x.load());
        CHECK.is(what + ": errorPosition()", SalaryCapLedger.NONE, () -> x.errorPosition());
    }

    private static void wrong(String what, int code, int position, String text) {
        SalaryCapLedger x = new SalaryCapLedger();
        Check.feed(x, text);
        CHECK.is(what + ": load()", -10 - code, () -> x.load());
        CHECK.is(what + ": errorPosition()", position, () -> x.errorPosition());
    }
}
