/** "Input text" and promises 8 to 11: each sentence that names a boundary, by a test of its own. */
public final class TextEdgesTest {
    public static void main(String[] args) {
        sixtyCharacters();
        codesAtTheEdges();
        lengthsReturned();
        clearedLengths();
        noPart();
        onePartAndMore();
        asManyPartsAsThereIsRoomFor();
        semicolonsBetweenOnly();
        armiesInTexts();
        fieldsInTexts();
        noLeadingZero();
        charactersBesideTheDigits();
        noErrorInTheEmptyBuffer();
        errorAtEachPlace();
        errorAtTheLastOfSixty();
        textsOfAnyLength();
        theFirstErrorIsTold();
        unfinishedIsNoError();
        refusedTextsStay();
        impossibleOnesAreLeftOut();
        noneGivenIsUndoable();
        undoableAsOneCall();
        oneAfterTheOther();
        ordersWithoutArmies();
        Check.end("TextEdgesTest");
    }

    private static FogOrders typed(String text) {
        return Setup.type(new FogOrders(), text);
    }

    private static String times(int times, String text) {
        return text.repeat(times);
    }

    /** "The buffer has at most 60 characters." */
    private static void sixtyCharacters() {
        FogOrders orders = typed(times(59, "x"));
        Check.due("the 60th", orders.append('x'), 60);
        Check.illegalState(orders, "the 61st", () -> orders.append('x'));
        Check.due("length", orders.clearBuffer(), 60);
        Check.due("the first again", orders.append('x'), 1);
    }

    /** "the character code, 33 to 126" */
    private static void codesAtTheEdges() {
        FogOrders orders = new FogOrders();
        Check.illegalArgument(orders, "32", () -> orders.append(32));
        Check.due("33", orders.append(33), 1);
        Check.due("126", orders.append(126), 2);
        Check.illegalArgument(orders, "127", () -> orders.append(127));
        Check.illegalArgument(orders, "0", () -> orders.append(0));
        Check.illegalArgument(orders, "'h' and 65536", () -> orders.append('h' + 65536));
    }

    /** "Returns the new length of the buffer." */
    private static void lengthsReturned() {
        FogOrders orders = new FogOrders();
        for (int i = 1; i <= 60; i++) {
            Check.due("append", orders.append(32 + i), i);
        }
    }

    /** "Returns the length that it had": 0, 1 and 60. */
    private static void clearedLengths() {
        FogOrders orders = new FogOrders();
        Check.due("of a new one", orders.clearBuffer(), 0);
        orders.append('!');
        Check.due("of one", orders.clearBuffer(), 1);
        Check.due("of a cleared one", orders.clearBuffer(), 0);
        Check.due("of 60", typed(times(60, "~")).clearBuffer(), 60);
    }

    /** "Orders as a text are one or more parts": the empty buffer has none. */
    private static void noPart() {
        FogOrders orders = Setup.armies(0, 0);
        Check.illegalArgument(orders, "orders() of nothing", () -> orders.orders());
        orders.append('0');
        orders.append('h');
        Check.due("orders() of one part", orders.orders(), 1);
        Check.illegalArgument(orders, "orders() of what is cleared", () -> orders.orders());
    }

    private static void onePartAndMore() {
        String[] texts = {"0h", "0h;1m8", "0m4;1h;0s8-4", "1m11;1m3;1s0-11;1s11-11"};
        FogOrders orders = Setup.armies(0, 0, 1, 7);
        for (int i = 0; i < texts.length; i++) {
            Setup.type(orders, texts[i]);
            Check.due("firstError of " + texts[i], orders.firstError(), texts[i].length());
            Check.due("orders() of " + texts[i], orders.orders(), i + 1);
        }
    }

    /** Twenty of the shortest parts are 59 characters long; seven of the longest and one more are 60. */
    private static void asManyPartsAsThereIsRoomFor() {
        FogOrders orders = Setup.armies(0, 0);
        Setup.type(orders, times(19, "0h;") + "0h");
        Check.due("firstError of 59", orders.firstError(), 59);
        Check.due("orders() of 20", orders.orders(), 20);
        String longest = times(7, "0s10-11;") + "0m11";
        Check.due("length", longest.length(), 60);
        Setup.type(orders, longest);
        Check.due("firstError of 60", orders.firstError(), 60);
        Check.due("orders() of 60", orders.orders(), 8);
        Check.due("the last is given", orders.armyOf(0, 3), 11);
        Check.due("the buffer is cleared", orders.clearBuffer(), 0);
    }

    /** "with ";" between them": not before the first, not behind the last, not two. */
    private static void semicolonsBetweenOnly() {
        Check.due("before", typed(";0h").firstError(), 0);
        Check.due("two", typed("0h;;1h").firstError(), 3);
        Check.due("none", typed("0h1h").firstError(), 2);
        Check.due("behind", typed("0h;").firstError(), 3);
        FogOrders behind = Setup.armies(0, 0);
        Setup.type(behind, "0h;");
        Check.illegalArgument(behind, "orders() with one behind", () -> behind.orders());
        Setup.type(behind, "0h");
        Check.due("orders()", behind.orders(), 2);
    }

    /** "each an army, 0 to 8" */
    private static void armiesInTexts() {
        for (int army = 0; army <= 8; army++) {
            Check.due("army " + army, typed(army + "h").firstError(), 2);
        }
        Check.due("army 9", typed("9h").firstError(), 0);
        Check.due("army 9 later", typed("0h;9h").firstError(), 3);
        Check.due("army 10", typed("10h").firstError(), 1);
        Check.due("army 00", typed("00h").firstError(), 1);
        Check.due("army -1", typed("-1h").firstError(), 0);
    }

    /** "a field, 0 to 11", for each of the three fields that a part can have. */
    private static void fieldsInTexts() {
        String[][] places = {{"0m", ""}, {"0s", "-0"}, {"0s0-", ""}};
        for (String[] place : places) {
            for (int field = 0; field <= 30; field++) {
                String text = place[0] + field + place[1];
                int due = field <= 11 ? text.length() : place[0].length() + 1;
                Check.due("firstError of " + text, typed(text).firstError(), due);
            }
            Check.due("100", typed(place[0] + "100").firstError(), place[0].length() + 2);
            Check.due("110", typed(place[0] + "110").firstError(), place[0].length() + 2);
            Check.due("-1", typed(place[0] + "-1").firstError(), place[0].length());
        }
        for (int field = 0; field <= 11; field++) {
            int near = field == 0 ? 1 : field - 1;
            FogOrders orders = Setup.armies(0, near);
            Setup.type(orders, "0m" + field);
            Check.due("orders() to " + field, orders.orders(), 1);
            Check.due("to " + field, orders.armyOf(0, 3), field);
            Setup.type(orders, "0s" + field + "-" + field);
            Check.due("orders() of support on " + field, orders.orders(), 1);
            Check.due("from " + field, orders.armyOf(0, 4), field);
            Check.due("to " + field, orders.armyOf(0, 3), field);
        }
    }

    /** "numbers without a leading zero" */
    private static void noLeadingZero() {
        Check.due("m00", typed("0m00").firstError(), 3);
        Check.due("m01", typed("0m01").firstError(), 3);
        Check.due("m011", typed("0m011").firstError(), 3);
        Check.due("s00-", typed("0s00-1").firstError(), 3);
        Check.due("s01-", typed("0s01-1").firstError(), 3);
        Check.due("s1-00", typed("0s1-00").firstError(), 5);
        Check.due("s1-01", typed("0s1-01").firstError(), 5);
        Check.due("the army 01", typed("01h").firstError(), 1);
        Check.due("0 alone", typed("0m0").firstError(), 3);
        Check.due("10", typed("0m10").firstError(), 4);
    }

    /** The characters before 0 and behind 8 or 9, wherever a number may stand. */
    private static void charactersBesideTheDigits() {
        for (String text : new String[] {"", "0h;", "0m", "0s", "0s1-"}) {
            Check.due("/ behind " + text, typed(text + "/").firstError(), text.length());
            Check.due(": behind " + text, typed(text + ":").firstError(), text.length());
        }
        for (String text : new String[] {"0m1", "0s1", "0s1-1"}) {
            Check.due("/ behind " + text, typed(text + "/").firstError(), text.length());
            Check.due("2 behind " + text, typed(text + "2").firstError(), text.length());
            Check.due("1 behind " + text, typed(text + "1").firstError(), text.length() + 1);
            Check.due("0 behind " + text, typed(text + "0").firstError(), text.length() + 1);
        }
    }

    /** "the length of the buffer if there is none": 0 of an empty one. */
    private static void noErrorInTheEmptyBuffer() {
        Check.due("new", new FogOrders().firstError(), 0);
        FogOrders cleared = typed("x");
        cleared.clearBuffer();
        Check.due("cleared", cleared.firstError(), 0);
    }

    /** "the index of the first character that is a syntax error": at every place of three parts. */
    private static void errorAtEachPlace() {
        String text = "0h;1m10;2s11-10";
        for (int i = 0; i < text.length(); i++) {
            Check.due("x at " + i, typed(text.substring(0, i) + "x" + text.substring(i + 1)).firstError(), i);
            Check.due("x before " + i, typed(text.substring(0, i) + "x" + text.substring(i)).firstError(), i);
            Check.due("x behind " + i, typed(text.substring(0, i) + "x").firstError(), i);
        }
        Check.due("x behind all", typed(text + "x").firstError(), text.length());
        Check.due("without x", typed(text).firstError(), text.length());
    }

    private static void errorAtTheLastOfSixty() {
        FogOrders orders = typed(times(19, "0h;") + "0hx");
        Check.due("firstError", orders.firstError(), 59);
        Check.due("length", orders.clearBuffer(), 60);
        Check.due("firstError of 60 at the first", typed(times(60, "x")).firstError(), 0);
    }

    /** "no orders as a text, of any length": so also of those that the buffer has no room for. */
    private static void textsOfAnyLength() {
        String[] lasts = {"0", "0m", "0s", "0s1", "0s1-", "0h;", "0m1;"};
        for (String last : lasts) {
            int room = 60 - last.length();
            String text = parts(room) + last;
            FogOrders orders = typed(text);
            Check.due("firstError of 60 with " + last, orders.firstError(), 60);
            Check.illegalArgument(orders, "orders() of 60 with " + last, () -> orders.orders());
            Check.due("the buffer stays", orders.clearBuffer(), 60);
        }
    }

    /** Parts with ";" behind each, of just this length. */
    private static String parts(int length) {
        String fill = length % 3 == 0 ? "" : length % 3 == 1 ? "0m1;" : "0m10;";
        return fill + times((length - fill.length()) / 3, "0h;");
    }

    private static void theFirstErrorIsTold() {
        Check.due("two errors", typed("0hx;9h").firstError(), 2);
        Check.due("an error and orders behind", typed("x;0h").firstError(), 0);
        Check.due("an error, and what would be none without", typed("0h9").firstError(), 2);
    }

    private static void unfinishedIsNoError() {
        String[] texts = {"0", "0m", "0m1", "0s", "0s1", "0s1-", "0s1-1", "0h;", "0h;8"};
        for (String text : texts) {
            Check.due("firstError of " + text, typed(text).firstError(), text.length());
        }
    }

    /** "if the buffer is not complete orders as a text (the buffer stays)" */
    private static void refusedTextsStay() {
        for (String text : new String[] {"x", "0", "0m", "0s1", "0s1-", "0h;", "0h;x", "0h;0m12", "9h"}) {
            FogOrders orders = Setup.armies(0, 0);
            orders.move(0, 1);
            Setup.type(orders, text);
            Check.illegalArgument(orders, "orders() of " + text, () -> orders.orders());
            Check.due("nothing is given of " + text, orders.armyOf(0, 2), 1);
            Check.due("nothing is saved of " + text, orders.count(12), 2);
            Check.due("length of " + text, orders.clearBuffer(), text.length());
        }
    }

    /** "but those that are not possible (for which the method would throw an exception)" */
    private static void impossibleOnesAreLeftOut() {
        FogOrders orders = Setup.armies(0, 0, 1, 6);
        String[] parts = {"2h", "8h", "2m1", "8s1-1", "0m0", "0m2", "1m0", "0s0-0", "0s3-1", "0s2-2", "1s0-0"};
        for (String part : parts) {
            Setup.type(orders, part);
            Check.due("orders() of " + part, orders.orders(), 0);
            Setup.type(orders, "0m4;" + part + ";1m7");
            Check.due("orders() with " + part, orders.orders(), 2);
            Setup.armyOf("with " + part, orders, 3, 4, 7);
        }
    }

    /** "Undoable, as one call, also if none is given." */
    private static void noneGivenIsUndoable() {
        FogOrders orders = Setup.armies(0, 0);
        Setup.type(orders, "1h");
        Check.due("orders()", orders.orders(), 0);
        Check.due("saved", orders.count(12), 2);
        Check.due("undo()", orders.undo(), 1);
        Check.due("armies", orders.count(0), 1);
    }

    private static void undoableAsOneCall() {
        FogOrders orders = Setup.armies(0, 0, 1, 6);
        Setup.type(orders, "0m1;1m7;0m4;1s2-2;0m8");
        Check.due("orders()", orders.orders(), 5);
        Check.due("saved", orders.count(12), 3);
        Check.due("undo()", orders.undo(), 2);
        Setup.armyOf("undone", orders, 2, 0, 0);
        Check.due("the buffer is not undone", orders.clearBuffer(), 0);
    }

    /** "Gives the orders in the buffer, one after the other" */
    private static void oneAfterTheOther() {
        FogOrders orders = Setup.armies(0, 0);
        Setup.type(orders, "0m1;0m4;0m12");
        Check.illegalArgument(orders, "orders()", () -> orders.orders());
        orders.clearBuffer();
        Setup.type(orders, "0m1;0m4;0m2");
        Check.due("orders()", orders.orders(), 2);
        Check.due("the last that is possible", orders.armyOf(0, 3), 4);
        Setup.type(orders, "0s4-4;0h");
        Check.due("orders()", orders.orders(), 2);
        Check.due("the last", orders.armyOf(0, 2), 0);
    }

    private static void ordersWithoutArmies() {
        FogOrders orders = typed("0h;8m11;4s0-11");
        Check.due("orders()", orders.orders(), 0);
        Check.due("saved", orders.count(12), 1);
        Check.due("length", orders.clearBuffer(), 0);
    }
}
