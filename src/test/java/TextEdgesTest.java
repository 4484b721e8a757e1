/** "Input text" and the promises 13 to 17: each place of a text with each character, the empty buffer, 60 and 61. */
public final class TextEdgesTest {
    private static final String DIGITS = "0123456789";
    private static final String FACTOR = "-" + DIGITS;
    private static final String SMALL = "v2;m3,2;c1,1<4;c1,3<6";
    private static final String JUNK = "~".repeat(60);
    // 59 characters; another one fits.
    private static final String ONE_LESS = "v4;m3,1,2,4;c1,2,3,4<50;c4,3,2,1<60;c1,0,1,0<90;c1,2,0,5<70";

    private TextEdgesTest() {
    }

    public static void main(String[] args) {
        start();
        profits();
        constraints();
        bounds();
        lastConstraint();
        firstOfSeveralErrors();
        errorsInLongBuffers();
        appendLengths();
        appendFull();
        appendSavesNothing();
        clearBufferLengths();
        loadSizes();
        loadBeginsAnew();
        loadReplaces();
        loadClears();
        loadRefused();
        loadSixty();
        writeLengths();
        writeSigns();
        writeSixty();
        writeTooLong();
        writeInPlace();
        writeChangesNothingElse();
        writeAndLoad();
        Check.end("TextEdgesTest");
    }

    // At the end of this beginning exactly these characters are no syntax error, and load takes it or not.
    private static void after(String beginning, String allowed, boolean complete) {
        for (int code = 33; code <= 126; code++) {
            SimplexDesk desk = new SimplexDesk();
            Check.enter(desk, beginning);
            desk.append(code);
            boolean fits = allowed.indexOf(code) >= 0;
            Check.same("firstError of " + beginning + (char) code, desk.firstError(), beginning.length() + (fits ? 1 : 0));
        }
        SimplexDesk desk = new SimplexDesk();
        Check.enter(desk, beginning);
        Check.same("firstError of " + beginning, desk.firstError(), beginning.length());
        Check.same("load of " + beginning, Twins.answer(desk, SimplexDesk::load).startsWith("java"), !complete);
    }

    // ""v" and the number of variables, 1 to 4; ";m""
    private static void start() {
        Check.begin("the start of a text");
        after("", "v", false);
        after("v", "1234", false);
        for (int many = 1; many <= 4; many++) {
            after("v" + many, ";", false);
            after("v" + many + ";", "m", false);
            after("v" + many + ";m", FACTOR, false);
        }
    }

    // "and the profits, as many as there are variables, with "," between them"; "a digit, or "-" and a digit from 1 to 9"
    private static void profits() {
        Check.begin("profits");
        for (int many = 1; many <= 4; many++) {
            String text = "v" + many + ";m";
            for (int variable = 1; variable <= many; variable++) {
                String sign = variable < many ? "," : ";";
                after(text + "-", "123456789", false);
                after(text + "0", sign, variable == many);
                after(text + "9", sign, variable == many);
                after(text + "-1", sign, variable == many);
                text += "-9";
                after(text, sign, variable == many);
                text += ",";
                if (variable < many) {
                    after(text, FACTOR, false);
                }
            }
        }
    }

    // "";c", as many coefficients, with "," between them, "<", and a bound"
    private static void constraints() {
        Check.begin("constraints");
        for (int many = 1; many <= 4; many++) {
            String text = "v" + many + ";m0" + ",0".repeat(many - 1) + ";";
            after(text, "c", false);
            text += "c";
            after(text, FACTOR, false);
            for (int variable = 1; variable <= many; variable++) {
                String sign = variable < many ? "," : "<";
                after(text + "-", "123456789", false);
                after(text + "0", sign, false);
                after(text + "9", sign, false);
                after(text + "-1", sign, false);
                text += "-9";
                after(text, sign, false);
                text += sign;
                after(text, variable < many ? FACTOR : DIGITS, false);
            }
        }
    }

    // "a bound, 0 to 99 without a leading zero", behind each of the first three constraints
    private static void bounds() {
        Check.begin("bounds");
        String text = "v1;m0";
        for (int constraint = 0; constraint < 3; constraint++) {
            text += ";c0<";
            after(text, DIGITS, false);
            after(text + "0", ";", true);
            after(text + "1", DIGITS + ";", true);
            after(text + "9", DIGITS + ";", true);
            after(text + "10", ";", true);
            after(text + "99", ";", true);
            after(text + "5;", "c", false);
            text += "7";
        }
    }

    // "up to four times": behind the fourth constraint the text has its end.
    private static void lastConstraint() {
        Check.begin("the fourth constraint");
        String text = "v1;m0;c1<1;c1<2;c1<3;c1<";
        after(text, DIGITS, false);
        after(text + "0", "", true);
        after(text + "1", DIGITS, true);
        after(text + "9", DIGITS, true);
        after(text + "10", "", true);
        after(text + "99", "", true);
    }

    // firstError: "the index of the first character that is a syntax error"
    private static void firstOfSeveralErrors() {
        Check.begin("the first of several errors");
        firstError("~~~", 0);
        firstError("v9;m1;x", 1);
        firstError("v1;mx;x", 4);
        firstError("vv1;m1", 1);
        firstError("v1;m1;c05<1", 8);
        firstError("v2;m1,2;c1<1;c1,1<5", 10);
        firstError("v1;m1;c1<00;x", 10);
        firstError(SMALL + "!" + SMALL, SMALL.length());
    }

    private static void firstError(String text, int due) {
        SimplexDesk desk = new SimplexDesk();
        Check.enter(desk, text);
        Check.same("firstError of " + text, desk.firstError(), due);
        Check.same("firstError again", desk.firstError(), due);
        Check.same("the buffer stays", desk.clearBuffer(), text.length());
    }

    // "the length of the buffer if there is none"; "no problem as a text, of any length"
    private static void errorsInLongBuffers() {
        Check.begin("errors in long buffers");
        firstError("", 0);
        firstError(Twins.FULL, 60);
        firstError(Twins.FULL.substring(0, 59), 59);
        firstError(Twins.FULL.substring(0, 59) + ";", 59);
        firstError(Twins.FULL.substring(0, 59) + "!", 59);
        firstError(JUNK, 0);
        // A problem that begins so has more than 60 characters: that is no error.
        firstError("v4;m-1,-1,-1,-1;c-1,-1,-1,-1<10;c-1,-1,-1,-1<10;c-1,-1,-1,-1", 60);
        firstError("v4;m-1,-1,-1,-1;c-1,-1,-1,-1<10;c-1,-1,-1,-1<10;c-1,-1,-1,-0", 59);
    }

    // append: "Returns the new length of the buffer."
    private static void appendLengths() {
        Check.begin("append");
        SimplexDesk desk = new SimplexDesk();
        for (int length = 1; length <= 60; length++) {
            Check.same("append", desk.append(33 + length), length);
        }
        Digests.expect(desk, text(34, 60));
    }

    private static String text(int first, int length) {
        StringBuilder text = new StringBuilder();
        for (int index = 0; index < length; index++) {
            text.append((char) (first + index));
        }
        return text.toString();
    }

    // "The buffer has at most 60 characters."
    private static void appendFull() {
        Check.begin("append to 59 and 60");
        SimplexDesk desk = new SimplexDesk();
        Check.enter(desk, ONE_LESS);
        Check.same("append", desk.append('0'), 60);
        Check.text("append", Twins.answer(desk, d -> d.append('0')), Twins.STATE.getName());
        Check.text("append of a wrong code", Twins.answer(desk, d -> d.append(127)), Twins.ARGUMENT.getName());
        Check.text("append of a wrong code", Twins.answer(desk, d -> d.append(32)), Twins.ARGUMENT.getName());
        Digests.expect(desk, ONE_LESS + "0");
        Check.same("clearBuffer", desk.clearBuffer(), 60);
        Check.same("append after clearBuffer", desk.append('0'), 1);
        SimplexDesk written = Check.desk(Twins.FULL);
        Check.same("write", written.write(), 60);
        Check.text("append behind what was written", Twins.answer(written, d -> d.append('0')), Twins.STATE.getName());
    }

    private static void appendSavesNothing() {
        Check.begin("append changes the buffer alone");
        SimplexDesk desk = Twins.prepared(6);
        SimplexDesk twin = Twins.prepared(6);
        desk.append('!');
        Check.same("clearBuffer", desk.clearBuffer(), SMALL.length() + 1);
        twin.clearBuffer();
        Twins.alike("append", desk, twin);
    }

    // clearBuffer: "Returns the length that it had."
    private static void clearBufferLengths() {
        Check.begin("clearBuffer");
        for (int length = 0; length <= 60; length++) {
            SimplexDesk desk = new SimplexDesk();
            Check.enter(desk, JUNK.substring(0, length));
            Check.same("clearBuffer", desk.clearBuffer(), length);
            Check.same("clearBuffer of the empty one", desk.clearBuffer(), 0);
            Check.same("savedStates", desk.savedStates(), 0);
            Digests.expect(desk, "");
        }
    }

    // load: "Returns how many constraints there are then.", of 0 to 4 and 1 to 4 variables
    private static void loadSizes() {
        Check.begin("load of each size");
        for (int many = 1; many <= 4; many++) {
            String text = "v" + many + ";m8" + ",9".repeat(many - 1);
            for (int constraints = 0; constraints <= 4; constraints++) {
                SimplexDesk desk = Twins.prepared(0);
                Check.enter(desk, text);
                Check.same("load of " + text, desk.load(), constraints);
                Check.same("variables", desk.variables(), many);
                Check.same("constraints", desk.constraints(), constraints);
                for (int variable = 0; variable < many; variable++) {
                    Check.same("profitOf", desk.profitOf(variable), variable == 0 ? 8 : 9);
                }
                for (int row = 0; row < constraints; row++) {
                    Check.same("coefficientOf", desk.coefficientOf(row, 0), row - 2);
                    Check.same("coefficientOf", desk.coefficientOf(row, many - 1), many == 1 ? row - 2 : row);
                    Check.same("boundOf", desk.boundOf(row), 33 * row);
                    Check.same("columnOf", desk.columnOf(row), many + row);
                }
                String others = many == 1 ? "" : ",0".repeat(many - 2) + "," + constraints;
                text += ";c" + (constraints - 2) + others + "<" + 33 * constraints;
            }
        }
    }

    // "It is begun anew whenever a problem is changed (also if nothing is different then)"; "the rule stays"
    private static void loadBeginsAnew() {
        Check.begin("load of the same problem");
        SimplexDesk desk = Check.desk(Twins.THREE, 2);
        Check.same("solve", desk.solve(), 2);
        Check.enter(desk, Twins.THREE);
        Check.same("load", desk.load(), 3);
        Check.text("the state", Twins.state(desk), "rule 2, pivots 0 of 2, idle 0, profits 5 4 3; row of 3: 2 3 1 < 5;"
                + " row of 4: 4 1 2 < 11; row of 5: 3 4 2 < 8");
    }

    // "Replaces the problem": nothing is left of the one before, also where the new one is smaller.
    private static void loadReplaces() {
        Check.begin("load of a smaller problem");
        SimplexDesk desk = Check.desk(Twins.FULL);
        Check.enter(desk, "v1;m9");
        Check.same("load", desk.load(), 0);
        Check.same("setVariables", desk.setVariables(4), 1);
        Check.same("addConstraint", desk.addConstraint(8), 0);
        for (int variable = 0; variable < 4; variable++) {
            Check.same("profitOf", desk.profitOf(variable), variable == 0 ? 9 : 0);
            Check.same("coefficientOf", desk.coefficientOf(0, variable), 0);
        }
        SimplexDesk second = Check.desk(Twins.FULL);
        Check.enter(second, "v2;m1,2;c3,4<5");
        Check.same("load", second.load(), 1);
        Check.same("setVariables", second.setVariables(4), 2);
        Check.text("the state", Twins.state(second), "rule 0, pivots 0 of 0, idle 0, profits 1 2 0 0; row of 4: 3 4 0 0 < 5");
    }

    // "and clears the buffer"
    private static void loadClears() {
        Check.begin("load clears the buffer");
        SimplexDesk desk = new SimplexDesk();
        Check.enter(desk, Twins.FULL);
        Check.same("load", desk.load(), 4);
        Check.same("firstError", desk.firstError(), 0);
        Digests.expect(desk, "");
        Check.text("load again", Twins.answer(desk, SimplexDesk::load), Twins.ARGUMENT.getName());
        Check.same("clearBuffer", desk.clearBuffer(), 0);
    }

    // load: "if the buffer is not a complete problem as a text (the buffer stays)"
    private static void loadRefused() {
        Check.begin("load refused");
        for (int length = 0; length <= Twins.FULL.length(); length++) {
            String text = Twins.FULL.substring(0, length);
            boolean complete = length == 11 || length == 22 || length == 23 || length == 34 || length == 35 || length == 46
                    || length == 47 || length == 59 || length == 60;
            Twins.Maker maker = () -> {
                SimplexDesk desk = Twins.prepared(6);
                Check.enter(desk, text);
                return desk;
            };
            if (complete) {
                Check.same("load of " + text, Twins.answer(maker.make(), SimplexDesk::load).startsWith("java"), false);
            } else {
                Twins.refuses(maker, "load of " + text, Twins.ARGUMENT, SimplexDesk::load);
            }
        }
        for (String text : new String[] {SMALL + ";", SMALL + "0;", SMALL + "~", "~" + SMALL, SMALL + "00", "v2;m3,2,1",
            "v1;m1;c1<1;c1<1;c1<1;c1<1;", "v1;m1;c1<1;c1<1;c1<1;c1<1;c1<1", JUNK}) {
            Twins.Maker maker = () -> {
                SimplexDesk desk = Twins.prepared(6);
                Check.enter(desk, text);
                return desk;
            };
            Twins.refuses(maker, "load of " + text, Twins.ARGUMENT, SimplexDesk::load);
        }
    }

    private static void loadSixty() {
        Check.begin("load of 60 characters");
        SimplexDesk desk = new SimplexDesk();
        Check.enter(desk, Twins.FULL);
        Check.same("load", desk.load(), 4);
        Check.same("coefficientOf(3, 0)", desk.coefficientOf(3, 0), -1);
        Check.same("coefficientOf(3, 3)", desk.coefficientOf(3, 3), 5);
        Check.same("boundOf(3)", desk.boundOf(3), 70);
    }

    // write: "Returns the length of the buffer then."
    private static void writeLengths() {
        Check.begin("write of each size");
        for (int many = 1; many <= 4; many++) {
            for (int constraints = 0; constraints <= 4; constraints++) {
                SimplexDesk desk = Twins.sized(many, constraints);
                int due = 4 + 2 * many - 1 + constraints * (2 + 2 * many - 1 + 1) + constraints + Math.max(0, constraints - 1);
                Check.same("write", desk.write(), due);
            }
        }
    }

    // "A profit or a coefficient is a digit, or "-" and a digit"; "a bound .. without a leading zero"
    private static void writeSigns() {
        Check.begin("what is written");
        String[] texts = {"v1;m0", "v1;m9", "v1;m-9", "v1;m-1;c0<0", "v1;m1;c-9<9", "v1;m1;c9<10", "v1;m1;c-1<99",
            "v2;m-9,9;c9,-9<11", "v3;m0,-1,1;c0,0,0<90;c1,-1,0<0", "v4;m0,0,0,0", ONE_LESS, Twins.FULL,
            "v1;m1;c1<1;c2<20;c3<3;c4<40"};
        for (String text : texts) {
            SimplexDesk desk = Check.desk(text);
            Check.same("write", desk.write(), text.length());
            Digests.expect(desk, text);
        }
        SimplexDesk desk = new SimplexDesk();
        Check.same("write of a new object", desk.write(), 7);
        Digests.expect(desk, "v2;m0,0");
    }

    private static void writeSixty() {
        Check.begin("write of 60 and 61 characters");
        SimplexDesk desk = Check.desk(ONE_LESS);
        Check.same("write", desk.write(), 59);
        desk.setProfit(2, -2);
        Check.same("write", desk.write(), 60);
        desk.setBound(0, 9);
        desk.setCoefficient(3, 3, -5);
        Check.same("write", desk.write(), 60);
        desk.setBound(0, 10);
        Check.text("write", Twins.answer(desk, SimplexDesk::write), Twins.STATE.getName());
        Check.same("the buffer stays", desk.clearBuffer(), 60);
    }

    // write: "if it would have more than 60 characters (the buffer stays)"; 79 are the most that there can be
    private static void writeTooLong() {
        Check.begin("write of too many characters");
        for (int more = 1; more <= 19; more++) {
            int bends = more;
            Twins.Maker maker = () -> {
                SimplexDesk desk = Check.desk(Twins.FULL);
                desk.keep();
                for (int place = 0; place < bends; place++) {
                    bend(desk, place);
                }
                Check.enter(desk, JUNK.substring(0, 3 * bends));
                return desk;
            };
            Twins.refuses(maker, "write of " + (60 + more), Twins.STATE, SimplexDesk::write);
        }
    }

    // Makes the text longer by 1: a number below 0 in place of one above, of the profits and then of each row.
    private static void bend(SimplexDesk desk, int place) {
        int row = place / 4 - 1;
        if (place == 16) {
            desk.setCoefficient(3, 1, -2);
        } else if (place > 16) {
            desk.setCoefficient(3, place - 15, -3);
        } else if (row < 0) {
            desk.setProfit(place, -1);
        } else {
            desk.setCoefficient(row, place % 4, -9);
        }
    }

    // write: "in place of what was there"
    private static void writeInPlace() {
        Check.begin("write in place of what was there");
        for (int length : new int[] {0, 1, 59, 60}) {
            SimplexDesk desk = Check.desk(SMALL);
            Check.enter(desk, JUNK.substring(0, length));
            Check.same("write", desk.write(), SMALL.length());
            Digests.expect(desk, SMALL);
            Check.same("write again", desk.write(), SMALL.length());
            Check.same("append behind it", desk.append('~'), SMALL.length() + 1);
            Digests.expect(desk, SMALL + "~");
        }
    }

    // write is not undoable, and leaves the basis.
    private static void writeChangesNothingElse() {
        Check.begin("write changes the buffer alone");
        for (int states = 0; states <= 6; states++) {
            SimplexDesk desk = Twins.prepared(states);
            SimplexDesk twin = Twins.prepared(states);
            desk.write();
            desk.clearBuffer();
            twin.clearBuffer();
            Twins.alike("write", desk, twin);
        }
    }

    private static void writeAndLoad() {
        Check.begin("load of what was written");
        for (String text : new String[] {"v1;m-9", SMALL, Twins.THREE, Twins.OPEN, ONE_LESS, Twins.FULL}) {
            SimplexDesk desk = Check.desk(text);
            String state = Twins.state(desk);
            desk.write();
            Check.same("firstError", desk.firstError(), text.length());
            desk.load();
            Check.text("load", Twins.state(desk), state);
        }
    }
}
