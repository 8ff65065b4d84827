/** The boundary cases that the document names of the procedures, sentence by sentence. */
public final class EdgesOfProceduresTest {
    private static final Check check = new Check("EdgesOfProceduresTest");
    private static int number = 0;

    public static void main(String[] args) {
        check.sentence("on a map of keys (bytes) with long values, at most 40 keys",
                EdgesOfProceduresTest::atMost40Keys);
        check.sentence("in the order in which they came", EdgesOfProceduresTest::inTheOrderTheyCame);
        check.sentence("0 takes nothing, gives nothing", EdgesOfProceduresTest::nothing);
        check.sentence("gives a word 0, a truth whether it was there", EdgesOfProceduresTest::setNew);
        check.sentence("and, if so, the long one it had", EdgesOfProceduresTest::setOld);
        check.sentence("or, if it was not there and 40 are, the word 1, and nothing is done",
                EdgesOfProceduresTest::setFull);
        check.sentence("the word 0 and its value, or the word 2 if it is not there", EdgesOfProceduresTest::get);
        check.sentence("3 takes a key and a long one: that more, and gives as 2", EdgesOfProceduresTest::more);
        check.sentence("that more (wrapping)", EdgesOfProceduresTest::moreWraps);
        check.sentence("4 takes a word n, up to 8, and n keys", EdgesOfProceduresTest::sumOfUpTo8);
        check.sentence("4 takes a word n, up to 8, and n keys: others", EdgesOfProceduresTest::sumOfMoreThan8);
        check.sentence("gives the sum of the values of those that are there, and a word, how many are not",
                EdgesOfProceduresTest::sumAndMissing);
        check.sentence("Of version 2 alone", EdgesOfProceduresTest::version2Alone);
        check.sentence("from and most (without a sign): those from place from on", EdgesOfProceduresTest::listFrom);
        check.sentence("n times a key and its value: at most most", EdgesOfProceduresTest::listMost);
        check.sentence("and at most 8", EdgesOfProceduresTest::listMost8);
        check.sentence("then a truth whether there are more behind", EdgesOfProceduresTest::listMoreBehind);
        check.sentence("6 takes a key, that is there no more: gives a truth whether it was",
                EdgesOfProceduresTest::remove);
        check.finish();
    }

    private static Message call(int version, int procedure) {
        number++;
        return Message.call(number, version, procedure);
    }

    private static Message given(int... words) {
        return Message.accepted(number, 0).words(words);
    }

    private static void gives(String what, Line line, Message record, Message due) {
        check.same(what, line.send(0, record), due.bytes());
    }

    private static void put(Line line, String key, long value) {
        number++;
        line.set(0, number, key, value);
    }

    /** Keys "0", "1", .. with the values 0, 1, .. */
    private static Line withKeys(int n) {
        Line line = new Line();
        for (int i = 0; i < n; i++) {
            put(line, "" + i, i);
        }
        return line;
    }

    private static Message listed(int from, int n, boolean more) {
        Message due = given(n);
        for (int i = from; i < from + n; i++) {
            due.key("" + i).longOne(i);
        }
        return due.words(more ? 1 : 0);
    }

    private static void atMost40Keys() {
        Line line = new Line();
        for (int i = 1; i <= 42; i++) {
            put(line, "key " + i, i);
            check.same("keys after " + i, line.x.count(1), Math.min(40, i));
        }
        for (int i : new int[] {1, 39, 40, 41, 42}) {
            check.same("key " + i, line.has("key " + i), i <= 40);
            check.same("value " + i, line.value("key " + i), i <= 40 ? i : 0);
        }
    }

    private static void inTheOrderTheyCame() {
        Line line = new Line();
        put(line, "z", 1);
        put(line, "", 2);
        put(line, "a", 3);
        put(line, "z", 4);
        gives("not by name, nor by change", line, call(2, 5).words(0, 8), given(3)
                .key("z").longOne(4).key("").longOne(2).key("a").longOne(3).words(0));
        gives("gone", line, call(2, 6).key("z"), given(1));
        put(line, "z", 5);
        gives("it comes anew", line, call(2, 5).words(0, 8), given(3)
                .key("").longOne(2).key("a").longOne(3).key("z").longOne(5).words(0));
    }

    private static void nothing() {
        Line line = withKeys(1);
        gives("1: 0", line, call(1, 0), given());
        gives("2: 0", line, call(2, 0), given());
        gives("0 with an empty key", line, call(1, 0).key(""), Message.accepted(number, 4));
        gives("0 with a byte", line, call(2, 0).zeros(1), Message.accepted(number, 4));
        check.same("keys", line.x.count(1), 1);
    }

    private static void setNew() {
        Line line = new Line();
        gives("new", line, call(1, 1).key("a").longOne(0), given(0, 0));
        gives("there with the value 0", line, call(1, 1).key("a").longOne(1), given(0, 1, 0, 0));
        gives("an empty key", line, call(1, 1).key("").longOne(7), given(0, 0));
        gives("a key 0", line, call(1, 1).key("\0").longOne(8), given(0, 0));
        gives("a key 0, 0", line, call(1, 1).key("\0\0").longOne(9), given(0, 0));
        check.same("keys", line.x.count(1), 4);
        check.same("the empty one", line.value(""), 7);
        check.same("0", line.value("\0"), 8);
    }

    private static void setOld() {
        Line line = new Line();
        long[] values = {Long.MIN_VALUE, -1, 0, 0x80000000L, Long.MAX_VALUE, 5};
        put(line, "a", 3);
        long had = 3;
        for (long value : values) {
            gives("had " + had, line, call(2, 1).key("a").longOne(value), given(0, 1).longOne(had));
            check.same("has " + value, line.value("a"), value);
            had = value;
        }
        check.same("keys", line.x.count(1), 1);
    }

    private static void setFull() {
        Line line = withKeys(40);
        int done = line.x.count(2);
        gives("one more", line, call(1, 1).key("more").longOne(1), given(1));
        check.same("it has code 0", line.x.count(2), done + 1);
        check.same("it is not there", line.has("more"), false);
        check.same("40 are", line.x.count(1), 40);
        gives("the last place", line, call(2, 5).words(39, 8), listed(39, 1, false));
        gives("one that was there", line, call(1, 1).key("0").longOne(9), given(0, 1).longOne(0));
        gives("the last that was there", line, call(1, 1).key("39").longOne(9), given(0, 1).longOne(39));
        gives("one goes", line, call(2, 6).key("20"), given(1));
        gives("one more then", line, call(1, 1).key("more").longOne(1), given(0, 0));
        gives("it comes last", line, call(2, 5).words(39, 8), given(1).key("more").longOne(1).words(0));
        gives("40 again", line, call(1, 1).key("20").longOne(1), given(1));
    }

    private static void get() {
        Line line = new Line();
        gives("of an empty map", line, call(1, 2).key(""), given(2));
        put(line, "a", 0);
        gives("the value 0", line, call(1, 2).key("a"), given(0, 0, 0));
        gives("a front", line, call(2, 2).key(""), given(2));
        gives("with more", line, call(2, 2).key("a\0"), given(2));
        check.same("none is made", line.x.count(1), 1);
    }

    private static void more() {
        Line line = new Line();
        gives("not there", line, call(1, 3).key("a").longOne(3), given(2));
        check.same("none is made", line.x.count(1), 0);
        put(line, "a", 10);
        gives("more", line, call(1, 3).key("a").longOne(3), given(0).longOne(13));
        gives("0 more", line, call(2, 3).key("a").longOne(0), given(0).longOne(13));
        gives("less", line, call(2, 3).key("a").longOne(-14), given(0).longOne(-1));
        check.same("it stays so", line.value("a"), -1);
        Line full = withKeys(40);
        gives("not there and 40 are", full, call(1, 3).key("a").longOne(3), given(2));
    }

    private static void moreWraps() {
        long[][] sums = {{Long.MAX_VALUE, 1}, {Long.MIN_VALUE, -1}, {Long.MAX_VALUE, Long.MAX_VALUE},
            {Long.MIN_VALUE, Long.MIN_VALUE}, {0xffffffffL, 1}, {1L << 32, -1}, {Integer.MAX_VALUE, 1}};
        for (long[] sum : sums) {
            Line line = new Line();
            put(line, "a", sum[0]);
            gives(sum[0] + " and " + sum[1], line, call(1, 3).key("a").longOne(sum[1]), given(0).longOne(sum[0] + sum[1]));
            check.same("value", line.value("a"), sum[0] + sum[1]);
        }
    }

    private static void sumOfUpTo8() {
        Line line = withKeys(9);
        for (int n = 0; n <= 8; n++) {
            Message record = call(1 + n % 2, 4).words(n);
            for (int i = 0; i < n; i++) {
                record.key("" + (8 - i));
            }
            gives(n + " keys", line, record, given().longOne(n * (17 - n) / 2).words(0));
        }
    }

    private static void sumOfMoreThan8() {
        Line line = withKeys(1);
        for (int n : new int[] {9, 10, 16, 255, 256, -1, -8, 0x80000000, 0x80000001, 0x7fffffff}) {
            Message record = call(1, 4).words(n);
            for (int i = 0; i < (n & 15); i++) {
                record.key("0");
            }
            gives("n " + n, line, record, Message.accepted(number, 4));
        }
        gives("one too few", line, call(1, 4).words(2).key("0"), Message.accepted(number, 4));
        gives("one too many", line, call(1, 4).words(1).key("0").key("0"), Message.accepted(number, 4));
        gives("none but one", line, call(1, 4).words(0).key("0"), Message.accepted(number, 4));
        gives("a last one of 17", line, call(1, 4).words(2).key("0").key(new byte[17]), Message.accepted(number, 4));
    }

    private static void sumAndMissing() {
        Line line = new Line();
        put(line, "max", Long.MAX_VALUE);
        put(line, "one", 1);
        put(line, "less", -3);
        gives("none of none", line, call(1, 4).words(0), given().longOne(0).words(0));
        gives("none of one", line, call(1, 4).words(1).key("x"), given().longOne(0).words(1));
        gives("wrapping", line, call(1, 4).words(2).key("max").key("one"), given().longOne(Long.MIN_VALUE).words(0));
        gives("negative", line, call(2, 4).words(3).key("less").key("").key("one"), given().longOne(-2).words(1));
        gives("a key again", line, call(2, 4).words(4).key("one").key("x").key("one").key("x"), given().longOne(2).words(2));
        Message eight = call(2, 4).words(8);
        for (int i = 0; i < 8; i++) {
            eight.key("x" + i);
        }
        gives("none of eight", line, eight, given().longOne(0).words(8));
        check.same("none is made", line.x.count(1), 3);
    }

    private static void version2Alone() {
        Line line = withKeys(1);
        gives("1: 5", line, call(1, 5).words(0, 8), Message.accepted(number, 3));
        gives("1: 6", line, call(1, 6).key("0"), Message.accepted(number, 3));
        check.same("nothing is done", line.x.count(1), 1);
        gives("2: 5", line, call(2, 5).words(0, 8), listed(0, 1, false));
        gives("2: 6", line, call(2, 6).key("0"), given(1));
    }

    private static void listFrom() {
        Line line = withKeys(3);
        gives("from 0", line, call(2, 5).words(0, 8), listed(0, 3, false));
        gives("from 2", line, call(2, 5).words(2, 8), listed(2, 1, false));
        for (int from : new int[] {3, 4, 40, 0x7fffffff, 0x7ffffffd, 0x80000000, -1, -2, -3}) {
            gives("from " + from, line, call(2, 5).words(from, 8), listed(0, 0, false));
            gives("from " + from + " all", line, call(2, 5).words(from, -1), listed(0, 0, false));
        }
        gives("of an empty map", new Line(), call(2, 5).words(0, 8), listed(0, 0, false));
    }

    private static void listMost() {
        Line line = withKeys(6);
        for (int most = 0; most <= 7; most++) {
            gives("most " + most, line, call(2, 5).words(1, most), listed(1, Math.min(5, most), most < 5));
        }
    }

    private static void listMost8() {
        for (int most : new int[] {7, 8, 9, 10, 40, 0x7fffffff, 0x80000000, 0x80000007, -1, -8}) {
            Line line = withKeys(40);
            gives("most " + most, line, call(2, 5).words(3, most), listed(3, most == 7 ? 7 : 8, true));
            gives("most " + most + " of the last", line, call(2, 5).words(32, most),
                    listed(32, most == 7 ? 7 : 8, most == 7));
        }
    }

    private static void listMoreBehind() {
        for (int keys = 7; keys <= 10; keys++) {
            Line line = withKeys(keys);
            gives("8 of " + keys, line, call(2, 5).words(0, 8), listed(0, Math.min(8, keys), keys > 8));
            gives("8 of " + keys + " from 1", line, call(2, 5).words(1, 8), listed(1, Math.min(8, keys - 1), keys > 9));
            gives("none of " + keys, line, call(2, 5).words(0, 0), listed(0, 0, true));
            gives("none of the last", line, call(2, 5).words(keys - 1, 0), listed(0, 0, true));
            gives("none behind it", line, call(2, 5).words(keys, 0), listed(0, 0, false));
        }
    }

    private static void remove() {
        Line empty = new Line();
        gives("of an empty map", empty, call(2, 6).key(""), given(0));
        check.same("none", empty.x.count(1), 0);
        for (int i : new int[] {0, 2, 4}) {
            Line line = withKeys(5);
            gives("there is " + i, line, call(2, 6).key("" + i), given(1));
            check.same("gone is " + i, line.has("" + i), false);
            check.same("keys", line.x.count(1), 4);
            gives("again", line, call(2, 6).key("" + i), given(0));
            check.same("still", line.x.count(1), 4);
            for (int k = 0; k < 5; k++) {
                check.same("the other " + k, line.value("" + k), k == i ? 0 : k);
            }
            gives("no value", line, call(1, 2).key("" + i), given(2));
            gives("it is new then", line, call(1, 1).key("" + i).longOne(9), given(0, 0));
        }
    }
}
