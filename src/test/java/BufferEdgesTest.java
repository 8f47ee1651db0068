/** Promises 1 to 5: each sentence that names a boundary case. A check's name begins with the promise that it is for. */
public final class BufferEdgesTest {
    private static final Check CHECK = new Check();
    private static final int BLANKS = 0x20202020;
    private static final String SMALL = "league 100 100 0 0 1;bracket 1 0;teams 2;players 3;contract 2 1 1 0 1 0 0;";
    private static final String RICH = "league 900 300 100 70 60;bracket 10 150;bracket 5 300;teams 3;players 5;"
            + "contract 0 0 200 10 3 100 2;contract 1 0 150 0 4 0 4;contract 2 1 250 5 2 7 0;contract 3 1 90 20 5 50 5;";

    public static void main(String[] args) {
        newObject();
        twoObjects();
        bytesInOrder();
        fullBuffer();
        truncate();
        truncateKeepsTheFirstBytes();
        truncatedTokens();
        lastTokenOfAFullBuffer();
        loadReturns();
        loadReplacesTheLeague();
        loadAgainAndAgain();
        loadOfAWrongText();
        loadEmptiesTheBuffer();
        errorPosition();
        CHECK.finish("BufferEdgesTest");
    }

    private static void newObject() {
        SalaryCapLedger x = new SalaryCapLedger();
        CHECK.refuses("P1 'without a league'", IllegalStateException.class, () -> x.year());
        CHECK.illegal("P1 'an empty text buffer': no byte", () -> x.truncate(1));
        CHECK.is("P1 'an empty text buffer': length 0", 0, () -> x.truncate(0));
        CHECK.is("P1 'an empty text buffer': the first twenty", 20, () -> x.append(0, 0, 0, 0, 0));
        CHECK.is("P1, P5: load() was never called", SalaryCapLedger.NONE, () -> x.errorPosition());
    }

    private static void twoObjects() {
        SalaryCapLedger one = rich();
        SalaryCapLedger two = new SalaryCapLedger();
        CHECK.refuses("P1 'Creates a ledger': a second one has no league", IllegalStateException.class, () -> two.year());
        CHECK.illegal("P1 'Creates a ledger': a second one has no text", () -> two.truncate(1));
        Check.feed(two, SMALL);
        two.load();
        two.makeOffer(77, 0, 1, 0, 0);
        CHECK.is("P1 'Creates a ledger': the first one keeps its league", 1, () -> one.year());
        CHECK.is("P1 'Creates a ledger': the first one keeps its offer", 40, () -> one.offer(0));
    }

    /** Each of the twenty bytes is once the only one that begins no token, so that its place shows. */
    private static void bytesInOrder() {
        for (int place = 0; place < 20; place++) {
            for (int value : new int[] {0, 0x7f, 0x80, 0xff}) {
                int[] words = {BLANKS, BLANKS, BLANKS, BLANKS, BLANKS};
                int shift = 24 - 8 * (place % 4);
                words[place / 4] = BLANKS & ~(0xff << shift) | value << shift;
                SalaryCapLedger x = new SalaryCapLedger();
                CHECK.is("P2 'Returns the new length'", 20, () -> x.append(words[0], words[1], words[2], words[3], words[4]));
                x.load();
                CHECK.is("P2 'the most significant byte first', byte " + place, place, () -> x.errorPosition());
            }
        }
        for (int word : new int[] {-1, Integer.MIN_VALUE, Integer.MAX_VALUE, 0}) {
            SalaryCapLedger x = new SalaryCapLedger();
            CHECK.is("P2: five words of " + word, 20, () -> x.append(word, word, word, word, word));
            CHECK.is("P2: they are no text", -11, () -> x.load());
        }
    }

    private static void fullBuffer() {
        SalaryCapLedger x = new SalaryCapLedger();
        for (int length = 20; length <= 900; length += 20) {
            CHECK.is("P2 'Returns the new length'", length, () -> x.append(BLANKS, BLANKS, BLANKS, BLANKS, BLANKS));
        }
        for (int length : new int[] {900, 899, 881}) {
            x.truncate(length);
            CHECK.refuses("P2 'Throws if the length would be above 900' from " + length, IllegalStateException.class,
                    () -> x.append(-1, -1, -1, -1, -1));
            CHECK.is("P2 '(then nothing is appended)': the length", length, () -> x.truncate(length));
            CHECK.illegal("P2 '(then nothing is appended)': not a byte more", () -> x.truncate(length + 1));
        }
        x.load();
        CHECK.is("P2 '(then nothing is appended)': the bytes are blanks still", 881, () -> x.errorPosition());
        for (int length = 20; length <= 900; length += 20) {
            x.append(BLANKS, BLANKS, BLANKS, BLANKS, BLANKS);
        }
        x.truncate(880);
        CHECK.is("P2: from 880 to 900", 900, () -> x.append(BLANKS, BLANKS, BLANKS, BLANKS, BLANKS & ~0xff));
        CHECK.is("P2: the 900th byte is there", -11, () -> x.load());
        CHECK.is("P2: the 900th byte is a wrong one", 899, () -> x.errorPosition());
    }

    private static void truncate() {
        SalaryCapLedger x = new SalaryCapLedger();
        Check.feed(x, SMALL);
        int length = SMALL.length();
        CHECK.illegal("P3 'greater than the present length', by one", () -> x.truncate(length + 1));
        CHECK.illegal("P3 'greater than the present length', 900", () -> x.truncate(900));
        CHECK.illegal("P3 'greater than the present length', the greatest int", () -> x.truncate(Integer.MAX_VALUE));
        CHECK.illegal("P3 'length is negative', -1", () -> x.truncate(-1));
        CHECK.illegal("P3 'length is negative', the least int", () -> x.truncate(Integer.MIN_VALUE));
        CHECK.is("P3: the present length", length, () -> x.truncate(length));
        CHECK.is("P3: a refused call changed nothing", 1, () -> x.load());
        CHECK.illegal("P3: of an empty buffer, 1", () -> x.truncate(1));
        CHECK.is("P3: of an empty buffer, 0", 0, () -> x.truncate(0));
        Check.feed(x, SMALL);
        CHECK.is("P3: one byte less", length - 1, () -> x.truncate(length - 1));
        CHECK.illegal("P3: what was cut off is gone", () -> x.truncate(length));
        CHECK.is("P3: to nothing", 0, () -> x.truncate(0));
        CHECK.is("P3: the next bytes come first", 20, () -> x.append(0, 0, 0, 0, 0));
        CHECK.is("P3 'needs no league', and changes none", 0, () -> x.year());
    }

    private static void truncateKeepsTheFirstBytes() {
        SalaryCapLedger x = new SalaryCapLedger();
        Check.feed(x, SMALL + " contract");
        x.truncate(SMALL.length());
        CHECK.is("P3 'to its first bytes': what is behind counts no more", 1, () -> x.load());
        x.append(0x6c656167, 0x7565ffff, -1, -1, -1);
        x.truncate(6);
        x.append(BLANKS, BLANKS, BLANKS, BLANKS, BLANKS);
        CHECK.is("P3 'to its first bytes': the next ones follow", -11, () -> x.load());
        CHECK.is("P3 'to its first bytes': league and 20 blanks", 26, () -> x.errorPosition());
    }

    /** The bytes behind the text would make another token of its last one. */
    private static void truncatedTokens() {
        cut("P3 'to its first bytes': six digits and a seventh behind", "league 9999999", 13, 13);
        cut("P3 'to its first bytes': a number in its range, and a digit behind", "league 1 1 2000", 14, 14);
        cut("P3 'to its first bytes': a keyword and a letter behind", "leagues", 6, 6);
        cut("P3 'to its first bytes': a part of a keyword", "league 1", 5, 0);
        cut("P3 'to its first bytes': a semicolon behind", "league 1 1 0 0 1;", 16, 16);
        cut("P3 'to its first bytes': blanks and a wrong byte behind", "league  @", 8, 8);
    }

    private static void cut(String what, String text, int length, int position) {
        SalaryCapLedger x = new SalaryCapLedger();
        Check.feed(x, text);
        x.truncate(length);
        CHECK.is(what, -11, () -> x.load());
        CHECK.is(what + ": the position", position, () -> x.errorPosition());
    }

    private static void lastTokenOfAFullBuffer() {
        String[] ends = {"contract", "contract 0", "contract 0 1", "contract 0 1 1 0 1 0 0", "contract 0 1 1 0 1 000000"};
        for (String end : ends) {
            SalaryCapLedger x = new SalaryCapLedger();
            Check.feed(x, SMALL + " ".repeat(900 - SMALL.length() - end.length()) + end);
            CHECK.is("P2, P4: a text of 900 bytes that ends with a token", -11, () -> x.load());
            CHECK.is("P5: the position 900", 900, () -> x.errorPosition());
        }
        String last = "contract 0 1 1 0 1 0 0;";
        SalaryCapLedger x = new SalaryCapLedger();
        Check.feed(x, SMALL + "\n".repeat(900 - SMALL.length() - last.length()) + last);
        CHECK.is("P2, P4: a correct text of 900 bytes that ends with a semicolon", 2, () -> x.load());
    }

    private static void loadReturns() {
        returned("P4 'the number of contracts': none", 0, "");
        returned("P4 'the number of contracts': three", 3, "contract 2 0 1 0 1 0 0;contract 0 1 1 0 1 0 0;contract 1 1 1 0 1 0 0;");
        returned("P4 '-10 minus the error code': 1", -11, "wrong");
        returned("P4 '-10 minus the error code': 2", -12, "contract 3");
        returned("P4 '-10 minus the error code': 4", -14, "contract 0 0 1 0 1 0 0;contract 0");
        SalaryCapLedger x = new SalaryCapLedger();
        Check.feed(x, "league 1 1 0 0 1;" + "bracket 1 0;".repeat(5));
        CHECK.is("P4 '-10 minus the error code': 3", -13, () -> x.load());
        CHECK.is("P4 'an empty buffer'", -11, () -> x.load());
    }

    private static void returned(String what, int due, String contracts) {
        SalaryCapLedger x = new SalaryCapLedger();
        Check.feed(x, "league 100 100 0 0 1;bracket 1 0;teams 2;players 3;" + contracts);
        CHECK.is(what, due, () -> x.load());
    }

    private static void loadReplacesTheLeague() {
        Snapshot.Scene fresh = () -> Check.league(SMALL);
        Snapshot.Scene replaced = () -> loadInto(rich(), SMALL);
        CHECK.same("P4 'replaces the current league': as if it were the first one", Snapshot.whole(fresh), Snapshot.whole(replaced));
        SalaryCapLedger x = rich();
        CHECK.is("P4, the league before: dead money", 300, () -> x.deadMoney(0, 0) + x.deadMoney(0, 1));
        CHECK.is("P4, the league before: the mid-level amount is used", 35, () -> x.midLevel(2));
        CHECK.is("P4, the league before: a tax was paid", 1, () -> x.paid(0) > 0 ? 1 : 0);
        loadInto(x, RICH);
        CHECK.is("P4 'there is no dead money'", 0, () -> x.deadMoney(0, 0) + x.deadMoney(0, 1));
        CHECK.is("P4 'no taxes have been paid'", 0, () -> x.paid(0));
        CHECK.is("P4 'no taxes have been paid': nobody was taxed", 0, () -> x.taxedYears(0));
        CHECK.is("P4 'the tenure of all players is 0'", 0, () -> x.playerValue(1, 2));
        CHECK.is("P4 'the last team of a player with a contract is its team'", 0, () -> x.playerValue(1, 1));
        CHECK.is("P4: the last team of a player without a contract", SalaryCapLedger.NONE, () -> x.playerValue(4, 1));
        CHECK.is("P4 'no action can be undone'", -2, () -> x.undo());
        CHECK.is("P4: the present year is 0 (section 3)", 0, () -> x.year());
        CHECK.is("P4: the offer is as at first (section 4)", 1, () -> x.offer(0));
        CHECK.is("P4: the whole mid-level amount is left", 70, () -> x.midLevel(2));
    }

    /** Nothing of the leagues before is left, nor of a wrong text that was read almost to its end. */
    private static void loadAgainAndAgain() {
        String broken = "league 900 300 100 70 60;" + "bracket 7 800;".repeat(4) + "teams 4;players 24;"
                + "contract 0 1 99 9 5 99 5;contract 1 2 88 8 4 88 4;contract 2 3 77 7 3 77 3;contract 3 0 66 6 2 66 2;"
                + "contract 4 0 55 5 5 55 5;contract 4";
        String small = Snapshot.whole(() -> Check.league(SMALL));
        String great = Snapshot.whole(() -> Check.league(RICH));
        CHECK.same("P4 'replaces the current league': the third league", small,
                Snapshot.whole(() -> loadInto(loadInto(rich(), SMALL), SMALL)));
        CHECK.same("P4 'replaces the current league': the first one again", great,
                Snapshot.whole(() -> loadInto(loadInto(rich(), SMALL), RICH)));
        CHECK.same("P4 'replaces the current league': after a wrong text", small,
                Snapshot.whole(() -> loadInto(loadInto(rich(), broken), SMALL)));
        CHECK.same("P4 'replaces the current league': after a wrong text alone", great,
                Snapshot.whole(() -> loadInto(loadInto(new SalaryCapLedger(), broken), RICH)));
        SalaryCapLedger x = rich();
        int[] due = {1, 4, -14, 4, -11, 1, 1};
        String[] texts = {SMALL, RICH, broken, RICH, "", SMALL, SMALL};
        for (int k = 0; k < due.length; k++) {
            Check.feed(x, texts[k]);
            CHECK.is("P4 'Returns the number of contracts' of this text", due[k], () -> x.load());
        }
    }

    private static void loadOfAWrongText() {
        String[] texts = {"", " ", "wrong", "league 0", SMALL + SMALL, SMALL + "contract 2 1 1 0 1 0 0;", SMALL + "contract 0 1 1 0 1 0 0"};
        for (String text : texts) {
            Snapshot.Scene after = () -> loadInto(rich(), text);
            CHECK.same("P4 'If it is correct': a wrong text leaves the league", Snapshot.league(() -> rich()), Snapshot.league(after));
        }
        SalaryCapLedger x = loadInto(new SalaryCapLedger(), SMALL + "wrong");
        CHECK.refuses("P4 'If it is correct': no league yet", IllegalStateException.class, () -> x.year());
        CHECK.is("P4: a correct text after a wrong one", 1, () -> loadInto(x, SMALL).playerValue(2, 0));
    }

    private static void loadEmptiesTheBuffer() {
        for (String text : new String[] {SMALL, "wrong", "league 0", SMALL + "contract 2", ""}) {
            SalaryCapLedger x = loadInto(new SalaryCapLedger(), text);
            CHECK.illegal("P4 'The buffer is empty afterwards in every case'", () -> x.truncate(1));
            CHECK.is("P4 'The buffer is empty afterwards': load() again", -11, () -> x.load());
            CHECK.is("P4 'The buffer is empty afterwards': its position", 0, () -> x.errorPosition());
            CHECK.is("P4 'The buffer is empty afterwards': twenty bytes", 20, () -> x.append(0, 0, 0, 0, 0));
        }
    }

    private static void errorPosition() {
        SalaryCapLedger x = new SalaryCapLedger();
        Check.feed(x, "wrong");
        CHECK.is("P5 'if load() was never called'", SalaryCapLedger.NONE, () -> x.errorPosition());
        x.truncate(0);
        loadInto(x, " \nwrong");
        CHECK.is("P5 'the position of the error'", 2, () -> x.errorPosition());
        CHECK.is("P5: asked again", 2, () -> x.errorPosition());
        x.append(0, 0, 0, 0, 0);
        x.truncate(0);
        CHECK.is("P5 'the latest call of load()', not of append() or truncate()", 2, () -> x.errorPosition());
        loadInto(x, SMALL);
        CHECK.is("P5 'the latest call found no error'", SalaryCapLedger.NONE, () -> x.errorPosition());
        loadInto(x, "");
        CHECK.is("P5 'by the latest call': position 0", 0, () -> x.errorPosition());
        x.makeOffer(2, 0, 1, 0, 0);
        x.undo();
        CHECK.is("P5, P40 'except errorPosition()': undo leaves it", 0, () -> x.errorPosition());
    }

    private static SalaryCapLedger loadInto(SalaryCapLedger x, String text) {
        Check.feed(x, text);
        x.load();
        return x;
    }

    /** A ledger in which all that load() sets back is something else: seven actions have been done. */
    private static SalaryCapLedger rich() {
        SalaryCapLedger x = Check.league(RICH);
        x.makeOffer(30, 5, 2, 10, 1);
        x.sign(0, 4, 1);
        x.release(3, true);
        x.nextYear();
        x.release(1, false);
        x.sign(2, 1, 1);
        x.makeOffer(40, 0, 1, 0, 0);
        return x;
    }
}
