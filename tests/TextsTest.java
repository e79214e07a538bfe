/** Promises 3, 10 and 11: texts, and the balls that are put from them. */
public final class TextsTest {
    public static void main(String[] args) {
        type();
        clearText();
        putAllBalls();
        putAllOrNone();
        faults();
        readAgain();
        everyShortText();
        Check.end("TextsTest");
    }

    private static void typeAll(HexBilliards x, String text) {
        x.clearText();
        for (char c : text.toCharArray()) {
            x.type(c);
        }
    }

    private static int putText(String text) {
        HexBilliards x = new HexBilliards();
        typeAll(x, text);
        return x.putAll();
    }

    private static void type() {
        HexBilliards x = new HexBilliards();
        for (int i = 0; i < 60; i++) {
            Check.due("10: character " + i, x.type((char) (i * 1100)), i + 1);
        }
        Check.due("10: a 61st", x.type('1'), HexBilliards.FULL);
        Check.due("10: count(15)", x.count(15), 60);
        Check.due("10: it is no act", x.count(14), 0);
    }

    private static void clearText() {
        HexBilliards x = new HexBilliards();
        Check.due("11: of the empty text", x.clearText(), 0);
        typeAll(x, "1:1");
        Check.due("11: clearText()", x.clearText(), 3);
        Check.due("11: count(15)", x.count(15), 0);
        Check.due("11: it is empty", x.putAll(), -100);
        Check.due("11: it is no act", x.count(14), 0);
        x.type('2');
        Check.due("11: no rest of the text that was", x.putAll(), -101);
    }

    private static void putAllBalls() {
        HexBilliards x = new HexBilliards();
        typeAll(x, "0:1;60:20;10:10");
        Check.due("3: putAll()", x.putAll(), 3);
        int[] cells = {0, 60, 10};
        int[] values = {1, 20, 10};
        for (int i = 0; i < 3; i++) {
            Check.due("3: cell of " + i, x.ball(i, 0), cells[i]);
            Check.due("3: value of " + i, x.ball(i, 1), values[i]);
        }
        Check.due("3: the text stays", x.count(15), 15);
        Check.due("3: one act", x.count(14), 1);
        Check.due("3: all back by one undo", x.undo(), 0);
        Check.due("3: count(0)", x.count(0), 0);
        Check.due("3: undo leaves the text", x.putAll(), 3);
    }

    private static void putAllOrNone() {
        HexBilliards x = new HexBilliards();
        typeAll(x, "5:1;6:1;5:2");
        Check.due("3: a cell twice", x.putAll(), HexBilliards.NOT_POSSIBLE);
        Check.due("3: none of them", x.count(1), 0);
        Check.due("3: no act", x.count(14), 0);
        typeAll(x, "0:1;1:1;2:1;3:1;4:1;5:1;6:1;7:1;8:1;9:1;10:1;11:1");
        Check.due("3: 12 balls", x.putAll(), 12);
        Check.due("3: the ball on the cell before the room", x.putAll(), HexBilliards.NOT_POSSIBLE);
        typeAll(x, "20:1");
        Check.due("3: a 13th", x.putAll(), HexBilliards.FULL);
        typeAll(x, "20:1;0:1");
        Check.due("3: the error of the first that has one", x.putAll(), HexBilliards.FULL);
        HexBilliards y = new HexBilliards();
        typeAll(y, "0:1;1:1;2:1;3:1;4:1;5:1;6:1;7:1;8:1;9:1;10:1;11:1;12:1");
        Check.due("3: 13 in a text", y.putAll(), HexBilliards.FULL);
        Check.due("3: none of the 13", y.count(0), 0);
        typeAll(y, "0:1;1:1;2:1;3:1;4:1;5:1;6:1;7:1;8:1;9:1;0:1;1:1;2:1;3:1;4:1");
        Check.due("3: 15 in a text, the 11th on the first", y.putAll(), HexBilliards.NOT_POSSIBLE);
        typeAll(y, "0:1;1:1;2:1;3:1;4:1;5:1;6:1;7:1;8:1;9:1;0:1;1:1;2:1;3:1;4:1;");
        Check.due("3: 60 characters, ends too early", y.putAll(), -160);
        Check.due("3: a fault comes first", y.count(14), 0);
        typeAll(y, "7:1");
        y.put(7, 1);
        Check.due("3: a ball put before", y.putAll(), HexBilliards.NOT_POSSIBLE);
    }

    /** A text is read from its start each time, however far the reading came before. */
    private static void readAgain() {
        HexBilliards x = new HexBilliards();
        typeAll(x, "5:");
        Check.due("3: too early", x.putAll(), -102);
        x.type('1');
        Check.due("3: a character more", x.putAll(), 1);
        x.type(';');
        Check.due("3: too early again", x.putAll(), -104);
        typeAll(x, "60:x");
        Check.due("3: a fault behind a cell", x.putAll(), -103);
        typeAll(x, "6:2");
        Check.due("3: another text", x.putAll(), 1);
        Check.due("3: just its ball", x.count(0), 2);
    }

    private static void fault(String text, int fault) {
        Check.due("3: fault of \"" + text + "\"", putText(text), -100 - fault);
    }

    private static void faults() {
        fault("", 0);
        fault(" ", 0);
        fault(":", 0);
        fault(";", 0);
        fault("x1:1", 0);
        fault("-1:1", 0);
        fault("0", 1);
        fault("00:1", 1);
        fault("01:1", 1);
        fault("61:1", 1);
        fault("70:1", 1);
        fault("600:1", 2);
        fault("60", 2);
        fault("60:", 3);
        fault("60:0", 3);
        fault("60::", 3);
        fault("60:;", 3);
        fault("60:21", 4);
        fault("60:30", 4);
        fault("60:200", 5);
        fault("60:20:", 5);
        fault("60:20 ", 5);
        fault("60:20;", 6);
        fault("60:20;;", 6);
        fault("60:20;5", 7);
        fault("60:20;5;", 7);
        fault("60:20;5:9/", 9);
        fault("5;5", 1);
        fault("5:1;05:1", 5);
        fault("5:1;5:01", 6);
        fault("1:1" + (char) ('1' + 256), 3);
        fault((char) 0x661 + ":1", 0);
        Check.due("3: \"9:9\"", putText("9:9"), 1);
        Check.due("3: \"59:19;6:2\"", putText("59:19;6:2"), 2);
    }

    /** Every text of at most five of these characters, against a pattern. */
    private static void everyShortText() {
        everyTextBehind("", 5);
    }

    private static void everyTextBehind(String text, int more) {
        int want = Model.fault(text);
        int got = putText(text);
        if (want < 0) {
            Check.holds("3: \"" + text + "\" has no fault", got > -100);
        } else {
            Check.due("3: fault of \"" + text + "\"", got, -100 - want);
        }
        for (int i = 0; more > 0 && i < 7; i++) {
            everyTextBehind(text + "01267:;".charAt(i), more - 1);
        }
    }
}
