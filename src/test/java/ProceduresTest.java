/** The procedures, with promises 13 and 14. */
public final class ProceduresTest {
    private static final Check check = new Check("ProceduresTest");
    private static int number = 0;

    public static void main(String[] args) {
        set();
        setFull();
        valueAndMore();
        sum();
        list();
        listEdges();
        remove();
        keys();
        valueAndHas();
        check.finish();
    }

    private static Message call(int version, int procedure) {
        number++;
        return Message.call(number, version, procedure);
    }

    private static Message given() {
        return new Message().words(number, 1, 0, 0, 0, 0);
    }

    private static void gives(String what, Line line, Message record, Message due) {
        check.same(what, line.send(0, record), due.bytes());
    }

    private static void put(Line line, String key, long value) {
        number++;
        line.set(0, number, key, value);
    }

    private static void set() {
        Line line = new Line();
        gives("new", line, call(1, 1).key("a").longOne(-5), given().words(0, 0));
        gives("old", line, call(2, 1).key("a").longOne(1L << 40), given().words(0, 1).longOne(-5));
        gives("older", line, call(2, 1).key("a").longOne(7), given().words(0, 1).longOne(1L << 40));
        check.same("value", line.value("a"), 7);
        check.same("keys", line.x.count(1), 1);
    }

    private static void setFull() {
        Line line = new Line();
        for (int i = 0; i < 39; i++) {
            put(line, "key" + i, i);
        }
        gives("the 40th", line, call(1, 1).key("last").longOne(1), given().words(0, 0));
        int done = line.x.count(2);
        gives("the 41st", line, call(1, 1).key("more").longOne(1), given().words(1));
        check.same("it is code 0", line.x.count(2), done + 1);
        check.same("nothing is done", line.has("more"), false);
        check.same("40", line.x.count(1), 40);
        gives("one that is there", line, call(1, 1).key("key7").longOne(70), given().words(0, 1).longOne(7));
        gives("one goes", line, call(2, 6).key("key3"), given().words(1));
        gives("one comes", line, call(1, 1).key("more").longOne(9), given().words(0, 0));
        check.same("40 again", line.x.count(1), 40);
        check.same("more", line.value("more"), 9);
    }

    private static void valueAndMore() {
        Line line = new Line();
        gives("2 without", line, call(1, 2).key("a"), given().words(2));
        gives("3 without", line, call(1, 3).key("a").longOne(3), given().words(2));
        check.same("3 makes no key", line.x.count(1), 0);
        put(line, "a", Long.MAX_VALUE);
        gives("2", line, call(2, 2).key("a"), given().words(0).longOne(Long.MAX_VALUE));
        gives("3 wraps", line, call(1, 3).key("a").longOne(2), given().words(0).longOne(Long.MIN_VALUE + 1));
        gives("3 less", line, call(2, 3).key("a").longOne(-1), given().words(0).longOne(Long.MIN_VALUE));
        check.same("value", line.value("a"), Long.MIN_VALUE);
        put(line, "b", 0xffffffffL);
        gives("3 carries", line, call(1, 3).key("b").longOne(1), given().words(0).longOne(1L << 32));
    }

    private static void sum() {
        Line line = new Line();
        gives("no keys", line, call(1, 4).words(0), given().longOne(0).words(0));
        put(line, "a", Long.MAX_VALUE);
        put(line, "b", 10);
        gives("some", line, call(2, 4).words(3).key("b").key("x").key("b"), given().longOne(20).words(1));
        gives("wrapping", line, call(1, 4).words(2).key("a").key("b"), given().longOne(Long.MIN_VALUE + 9).words(0));
        Message eight = call(1, 4).words(8);
        for (int i = 0; i < 8; i++) {
            eight.key(i == 7 ? "b" : "0123456789abcde" + i);
        }
        gives("eight", line, eight, given().longOne(10).words(7));
    }

    private static void list() {
        Line line = new Line();
        gives("of nothing", line, call(2, 5).words(0, 8), given().words(0, 0));
        put(line, "b", 2);
        put(line, "a", 1);
        put(line, "ccccc", -3);
        put(line, "b", 20);
        gives("all", line, call(2, 5).words(0, 3), given().words(3)
                .key("b").longOne(20).key("a").longOne(1).key("ccccc").longOne(-3).words(0));
        gives("two", line, call(2, 5).words(0, 2), given().words(2)
                .key("b").longOne(20).key("a").longOne(1).words(1));
        gives("from 1 two", line, call(2, 5).words(1, 2), given().words(2)
                .key("a").longOne(1).key("ccccc").longOne(-3).words(0));
        gives("none, more behind", line, call(2, 5).words(0, 0), given().words(0, 1));
        gives("from the end", line, call(2, 5).words(3, 1), given().words(0, 0));
        gives("from behind it", line, call(2, 5).words(4, 0), given().words(0, 0));
    }

    private static Line withNine() {
        Line line = new Line();
        for (int i = 0; i < 9; i++) {
            put(line, "" + i, i);
        }
        return line;
    }

    private static void listEdges() {
        Line line = withNine();
        gives("without a sign: from", line, call(2, 5).words(-1, 1), given().words(0, 0));
        gives("without a sign: lowest from", line, call(2, 5).words(Integer.MIN_VALUE, -1), given().words(0, 0));
        gives("without a sign: highest from", line, call(2, 5).words(Integer.MAX_VALUE, -1), given().words(0, 0));
        gives("from the ninth", line, call(2, 5).words(8, -1), given().words(1).key("8").longOne(8).words(0));
        for (int most : new int[] {8, 9, 100, -1, Integer.MIN_VALUE, Integer.MAX_VALUE}) {
            line = withNine();
            for (int from = 0; from <= 1; from++) {
                Message record = call(2, 5).words(from, most);
                Message due = given().words(8);
                for (int i = from; i < from + 8; i++) {
                    due.key("" + i).longOne(i);
                }
                gives("eight from " + from + " of " + most, line, record, due.words(1 - from));
            }
        }
    }

    private static void remove() {
        Line line = new Line();
        gives("6 without", line, call(2, 6).key("a"), given().words(0));
        put(line, "a", 1);
        put(line, "b", 2);
        put(line, "c", 3);
        gives("6", line, call(2, 6).key("a"), given().words(1));
        gives("6 again", line, call(2, 6).key("a"), given().words(0));
        check.same("gone", line.has("a"), false);
        check.same("keys", line.x.count(1), 2);
        put(line, "a", 4);
        gives("it comes last", line, call(2, 5).words(0, 8), given().words(3)
                .key("b").longOne(2).key("c").longOne(3).key("a").longOne(4).words(0));
        gives("the last goes", line, call(2, 6).key("a"), given().words(1));
        put(line, "dd", 5);
        gives("and another comes", line, call(2, 5).words(1, 8), given().words(2)
                .key("c").longOne(3).key("dd").longOne(5).words(0));
    }

    private static void keys() {
        Line line = new Line();
        put(line, "", 1);
        put(line, "\0", 2);
        put(line, "\0\0", 3);
        put(line, "0123456789abcdef", 4);
        put(line, "0123456789abcdeg", 5);
        put(line, "\u00ff", 6);
        check.same("keys", line.x.count(1), 6);
        gives("empty", line, call(1, 2).key(""), given().words(0).longOne(1));
        gives("a 0", line, call(1, 2).key("\0"), given().words(0).longOne(2));
        gives("two 0s", line, call(1, 2).key("\0\0"), given().words(0).longOne(3));
        gives("three 0s", line, call(1, 2).key("\0\0\0"), given().words(2));
        gives("16 bytes", line, call(1, 2).key("0123456789abcdef"), given().words(0).longOne(4));
        gives("their front", line, call(1, 2).key("0123456789abcde"), given().words(2));
        gives("255", line, call(1, 2).key("\u00ff"), given().words(0).longOne(6));
    }

    private static void valueAndHas() {
        Line line = new Line();
        put(line, "", -1);
        put(line, "0123456789abcdef", 0);
        check.same("has empty", line.has(""), true);
        check.same("value of empty", line.value(""), -1);
        check.same("has 16", line.has("0123456789abcdef"), true);
        check.same("value of 16", line.value("0123456789abcdef"), 0);
        check.same("has 17", line.has("0123456789abcdefg"), false);
        check.same("value of 17", line.value("0123456789abcdefg"), 0);
        check.same("has no a", line.has("a"), false);
        check.same("no value of a", line.value("a"), 0);
        line.x.value();
        line.x.has();
        check.same("the tape stays", line.x.feed(0, 0, 0, 0, 0), 21);
        check.same("has no long tape", line.has("a".repeat(1600)), false);
    }
}
