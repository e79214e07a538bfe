/** TEXTS and promises 3, 10 and 11: each sentence that names a boundary. */
public final class TextBoundaries {
    private static final int LENGTH = 15;
    private static final String TWELVE_BALLS = "0:1;1:1;2:1;3:1;4:1;5:1;6:1;7:1;8:1;9:1;10:1;11:1";
    /** 12 balls, 60 characters: all that a text has room for. */
    private static final String FULL_TEXT = "0:10;1:11;2:12;3:13;4:14;5:15;6:16;7:17;8:18;9:19;10:1;60:20";

    public static void main(String[] args) throws IllegalAccessException {
        Sentences.test(TextBoundaries.class);
    }

    private static void fault(String text, int fault) {
        Check.due("the fault of \"" + text + "\"", Table.withText(text).putAll(), -100 - fault);
    }

    private static void noFault(String text, int balls) {
        Check.due("the balls of \"" + text + "\"", Table.withText(text).putAll(), balls);
    }

    // ---- TEXTS

    @Sentence(of = "TEXTS", says = "There is a text of at most 60 characters")
    static void sixtyCharacters() {
        HexBilliards x = new HexBilliards();
        for (int i = 0; i < 59; i++) {
            x.type('1');
        }
        Check.due("the 60th", x.type('1'), 60);
        Check.due("the 61st", x.type('1'), HexBilliards.FULL);
        Check.due("its length", x.count(LENGTH), 60);
        Check.due("a full text", FULL_TEXT.length(), 60);
        noFault(FULL_TEXT, 12);
    }

    @Sentence(of = "TEXTS", says = "empty at first")
    static void theTextIsEmptyAtFirst() {
        HexBilliards x = new HexBilliards();
        Check.due("its length", x.count(LENGTH), 0);
        Check.due("its fault", x.putAll(), -100);
        Check.due("cleared", x.clearText(), 0);
        Table.withText("1:1");
        Check.due("another one's text is not this one's", x.count(LENGTH), 0);
    }

    @Sentence(of = "TEXTS", says = "A text of balls is one or more balls with \";\" between two")
    static void oneOrMoreBalls() {
        fault("", 0);
        noFault("5:1", 1);
        noFault("5:1;6:1", 2);
        noFault(TWELVE_BALLS, 12);
        fault("5:1;", 4);
        fault(";5:1", 0);
        fault("5:1;;6:1", 4);
        fault("5:1 6:1", 3);
        fault("5:1,6:1", 3);
        fault("5:1:6:1", 3);
    }

    @Sentence(of = "TEXTS", says = "a cell (0 to 60)")
    static void cellsZeroToSixty() {
        for (int cell = 0; cell <= 60; cell++) {
            HexBilliards x = Table.withText(cell + ":1");
            Check.due("cell " + cell, x.putAll(), 1);
            Check.due("the ball on " + cell, x.ball(0, 0), cell);
        }
        for (int cell = 61; cell <= 99; cell++) {
            fault(cell + ":1", 1);
        }
        fault("-1:1", 0);
        fault("600:1", 2);
    }

    @Sentence(of = "TEXTS", says = "\":\" and a value (1 to 20)")
    static void valuesOneToTwenty() {
        for (int value = 1; value <= 20; value++) {
            HexBilliards x = Table.withText("60:" + value);
            Check.due("value " + value, x.putAll(), 1);
            Check.due("the value of the ball", x.ball(0, 1), value);
        }
        for (int value = 21; value <= 99; value++) {
            fault("60:" + value, 4);
        }
        fault("60:0", 3);
        fault("60:-1", 3);
        fault("60:200", 5);
        fault("60;1", 2);
        fault("60 1", 2);
    }

    @Sentence(of = "TEXTS", says = "Numbers have no zero in front, unless the cell is the single digit 0")
    static void noZeroInFront() {
        noFault("0:1", 1);
        fault("00:1", 1);
        fault("01:1", 1);
        fault("09:1", 1);
        fault("060:1", 1);
        fault("5:0", 2);
        fault("5:01", 2);
        fault("5:020", 2);
        fault("5:1;00:1", 5);
        noFault("10:10;20:20;0:1", 3);
    }

    @Sentence(of = "TEXTS", says = "a digit by which a number would be greater than told is not allowed")
    static void noDigitTooMuch() {
        noFault("60:20", 1);
        fault("61:20", 1);
        fault("69:20", 1);
        fault("70:20", 1);
        fault("99:20", 1);
        fault("100:20", 2);
        fault("599:20", 2);
        fault("60:21", 4);
        fault("60:30", 4);
        fault("60:99", 4);
        fault("60:199", 5);
        fault("60:100", 5);
        noFault("59:19", 1);
    }

    @Sentence(of = "TEXTS", says = "The fault of the text is the index, from 0, of the first character that is not allowed at its place")
    static void theFirstCharacterThatIsNotAllowed() {
        fault("x", 0);
        fault(":1", 0);
        fault("5;1", 1);
        fault("5:;", 2);
        fault("5:1x;x", 3);
        fault("5:x1;x", 2);
        fault("x:x", 0);
        fault(FULL_TEXT.substring(0, 59) + "x", 59);
        fault(FULL_TEXT.substring(0, 59) + ":", 59);
    }

    @Sentence(of = "TEXTS", says = "or the length of the text if it ends too early (the empty text does)")
    static void endsTooEarly() {
        fault("", 0);
        fault("6", 1);
        fault("60", 2);
        fault("60:", 3);
        fault("60:20;", 6);
        fault("60:20;0", 7);
        fault("60:20;0:", 8);
        noFault("60:2", 1);
        fault(TWELVE_BALLS + ";", TWELVE_BALLS.length() + 1);
        fault("0:1;0:1;0:1;0:1;0:1;0:1;0:1;0:1;0:1;0:1;0:1;0:1;0:1;0:1;0:1;", 60);
    }

    // ---- putAll

    @Sentence(of = "Promise 3", says = "Puts the balls of the text, which stays, one after the other; all of them, or none.")
    static void allOfThemOrNone() {
        HexBilliards x = Table.withText("60:20;0:1");
        Check.due("putAll()", x.putAll(), 2);
        Check.due("the first one", x.ball(0, 0), 60);
        Check.due("its value", x.ball(0, 1), 20);
        Check.due("the second one", x.ball(1, 0), 0);
        Check.due("its value", x.ball(1, 1), 1);
        Check.due("the text stays", x.count(LENGTH), 9);
        x.clearText();
        Table.type(x, "30:1;31:1;0:1");
        Check.due("the third one's cell has a ball", x.putAll(), HexBilliards.NOT_POSSIBLE);
        Check.due("none is put", x.count(0), 2);
        Check.due("no number is given", x.count(1), 2);
        Check.due("cell 30 is free", x.ofCell(30, 2), HexBilliards.NONE);
        Check.due("the text stays", x.count(LENGTH), 13);
        x.takeOff(1);
        Check.due("the same text when the cell is free", x.putAll(), 3);
    }

    @Sentence(of = "Promise 3", says = "This is one act.")
    static void putAllIsOneAct() {
        Look.act("one ball", Table.withText("5:1"), x -> x.putAll());
        Look.act("12 balls", Table.withText(TWELVE_BALLS), x -> x.putAll());
    }

    @Sentence(of = "Promise 3", says = "Returns how many the text has")
    static void oneToTwelve() {
        for (int balls = 1; balls <= 12; balls++) {
            StringBuilder text = new StringBuilder("40:1");
            for (int i = 1; i < balls; i++) {
                text.append(';').append(i).append(":1");
            }
            noFault(text.toString(), balls);
        }
        HexBilliards x = Table.withText("50:1;51:1");
        x.put(0, 1);
        Check.due("not those before it", x.putAll(), 2);
    }

    @Sentence(of = "Promise 3", says = "-100 minus the fault of the text if it has one (which is an error)")
    static void minusTheFault() {
        Check.due("the empty text", new HexBilliards().putAll(), -100);
        Check.due("the first character", Table.withText("x").putAll(), -100);
        Check.due("the second one", Table.withText("5").putAll(), -101);
        Check.due("a full text that ends too early", Table.withText(
            "0:1;0:1;0:1;0:1;0:1;0:1;0:1;0:1;0:1;0:1;0:1;0:1;0:1;0:1;0:1;").putAll(), -160);
        HexBilliards x = Table.withText("5:1;6:1;");
        x.putAll();
        Check.due("no ball is put", x.count(1), 0);
        Check.due("nothing is recorded", x.count(14), 0);
    }

    @Sentence(of = "Promise 3", says = "otherwise the error that put() returns for the first one that has one when its turn comes.")
    static void theErrorOfTheFirstOne() {
        HexBilliards x = Table.withText("5:1;5:2");
        Check.due("onto the one just put", x.putAll(), HexBilliards.NOT_POSSIBLE);
        Check.due("cell 5 is free", x.ofCell(5, 2), HexBilliards.NONE);
        HexBilliards full = Table.withAllBalls();
        Table.type(full, "60:1");
        Check.due("no room", full.putAll(), HexBilliards.FULL);
        full.clearText();
        Table.type(full, "60:1;0:1");
        Check.due("no room, then a ball", full.putAll(), HexBilliards.FULL);
        full.clearText();
        Table.type(full, "0:1;60:1");
        Check.due("a ball, then no room", full.putAll(), HexBilliards.NOT_POSSIBLE);
        HexBilliards y = Table.withText("50:1;51:1;52:1");
        for (int cell = 0; cell < 10; cell++) {
            y.put(cell, 1);
        }
        Check.due("room for two of three", y.putAll(), HexBilliards.FULL);
        Check.due("none is put", y.count(1), 10);
        y.clearText();
        Table.type(y, "50:1;51:1;9:1");
        Check.due("room for two, the third onto a ball", y.putAll(), HexBilliards.NOT_POSSIBLE);
        y.clearText();
        Table.type(y, "50:1;51:1");
        Check.due("room for both", y.putAll(), 2);
        HexBilliards most = Table.withText("0:1;1:1;2:1;3:1;4:1;5:1;6:1;7:1;8:1;9:1;0:1;1:1;2:1;3:1;4:1");
        Check.due("15 balls, the 11th onto the first", most.putAll(), HexBilliards.NOT_POSSIBLE);
    }

    @Sentence(of = "Promise 3", says = "Returns how many the text has; -100 minus the fault of the text if it has one (which is an error); "
        + "otherwise the error that put() returns for the first one that has one when its turn comes.")
    static void theFaultComesFirst() {
        HexBilliards x = Table.withAllBalls();
        Table.type(x, "0:1;60:1;");
        Check.due("a fault behind a ball that can't be put", x.putAll(), -109);
        x.type('x');
        Check.due("a fault at the end", x.putAll(), -109);
    }

    // ---- type and clearText

    @Sentence(of = "Promise 10", says = "Types a character behind the text.")
    static void typeGoesBehind() {
        HexBilliards x = Table.withText("1:");
        x.type('2');
        x.putAll();
        Check.due("cell", x.ball(0, 0), 1);
        Check.due("value", x.ball(0, 1), 2);
        Check.due("it is no act", x.count(14), 1);
        HexBilliards full = Table.withText(FULL_TEXT);
        full.type('x');
        Check.due("a refused one is not there", full.putAll(), 12);
        Check.due("the last character is as it was", full.ball(11, 1), 20);
    }

    @Sentence(of = "Promise 10", says = "`character`: any character")
    static void anyCharacter() {
        char[] characters = {0, '\n', ' ', '/', '0', '9', ':', ';', 127, 128, 255, 256, (char) 0x130, 0x7fff, 0x8000, 0xffff};
        HexBilliards x = new HexBilliards();
        for (int i = 0; i < characters.length; i++) {
            Check.due("character " + (int) characters[i], x.type(characters[i]), i + 1);
        }
        for (char character : characters) {
            boolean begins = character == '0' || character == '9';
            Check.due("the fault of " + (int) character, Table.withText("" + character).putAll(), begins ? -101 : -100);
        }
    }

    @Sentence(of = "Promise 10", says = "Returns the length of the text then")
    static void lengthsOneToSixty() {
        HexBilliards x = new HexBilliards();
        for (int length = 1; length <= 60; length++) {
            Check.due("length", x.type(';'), length);
            Check.due("it is told", x.count(LENGTH), length);
        }
    }

    @Sentence(of = "Promise 10", says = "FULL if it has 60 characters.")
    static void fullBehindSixty() {
        HexBilliards x = Table.withText(FULL_TEXT);
        Check.due("the 61st", x.type('1'), HexBilliards.FULL);
        Check.due("again", x.type(';'), HexBilliards.FULL);
        Check.due("length", x.count(LENGTH), 60);
        x.clearText();
        Check.due("cleared, there is room", x.type('1'), 1);
    }

    @Sentence(of = "Promise 11", says = "Empties the text.")
    static void clearEmpties() {
        HexBilliards x = Table.withText(FULL_TEXT);
        x.clearText();
        Check.due("length", x.count(LENGTH), 0);
        Check.due("fault", x.putAll(), -100);
        x.type('5');
        Check.due("no rest of it", x.putAll(), -101);
        Check.due("it is no act", x.count(14), 0);
    }

    @Sentence(of = "Promise 11", says = "Returns the length that it had.")
    static void clearReturnsZeroToSixty() {
        HexBilliards x = new HexBilliards();
        Check.due("the empty text", x.clearText(), 0);
        x.type('x');
        Check.due("one character", x.clearText(), 1);
        Check.due("cleared again", x.clearText(), 0);
        Table.type(x, FULL_TEXT);
        Check.due("60 characters", x.clearText(), 60);
        Table.type(x, FULL_TEXT);
        x.type('x');
        Check.due("a refused one does not count", x.clearText(), 60);
    }
}
