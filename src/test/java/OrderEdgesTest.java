import java.util.ArrayList;
import java.util.LinkedHashMap;
import java.util.List;
import java.util.Map;
import java.util.function.ToLongFunction;

/** What is asked changes nothing but THE FRACTION; what changes the box counts at once, whatever was asked ahead. */
public final class OrderEdgesTest {
    private static Map<String, ToLongFunction<NamelessBox>> questions() {
        Map<String, ToLongFunction<NamelessBox>> all = new LinkedHashMap<>();
        all.put("who(1, 1)", x -> x.who(1, 1));
        all.put("who(0, NONE)", x -> x.who(0, -1));
        all.put("named(2)", x -> x.named(2));
        all.put("best(1)", x -> x.best(1));
        all.put("all()", x -> x.all());
        all.put("sure(50)", x -> x.sure(50));
        all.put("falls(50, 0)", x -> x.falls(50, 0));
        all.put("same(1, 2)", x -> x.same(1, 2));
        all.put("noneOf(0)", x -> x.noneOf(0));
        all.put("friend(0)", x -> x.friend(0));
        all.put("of(0, 0)", x -> x.of(0, 0));
        all.put("when(0, 41)", x -> x.when(0, 41));
        all.put("span(0, 1)", x -> x.span(0, 1));
        all.put("ahead(0, 1)", x -> x.ahead(0, 1));
        all.put("ahead(1, 0)", x -> x.ahead(1, 0));
        all.put("parts(0, 1)", x -> x.parts(0, 1));
        all.put("doubt(0, 1)", x -> x.doubt(0, 1));
        all.put("right()", x -> x.right());
        all.put("ask(1)", x -> x.ask(1));
        all.put("next()", x -> x.next());
        all.put("like(0, 1, 41)", x -> x.like(0, 1, 41));
        all.put("truth(0)", x -> x.truth(0));
        all.put("mark(1, 1)", x -> x.mark(1, 1));
        return all;
    }

    private static Map<String, ToLongFunction<NamelessBox>> changes() {
        Map<String, ToLongFunction<NamelessBox>> all = new LinkedHashMap<>();
        all.put("person", x -> x.person(20, 70, 2, 6));
        all.put("parent", x -> x.parent(1, -1));
        all.put("near", x -> x.near(1, 0));
        all.put("picture", x -> x.picture(50, 52));
        all.put("head", x -> x.head(1, 3, 3, 20, 30));
        all.put("name", x -> x.name(3, 2, 0, 1));
        all.put("join", x -> x.join(0, 2, 6));
        all.put("strange", x -> x.strange(9));
        all.put("read", x -> x.read());
        all.put("from", x -> x.from(0));
        all.put("SURE", x -> x.name(1, 0, 0, 0));
        all.put("NEVER", x -> x.name(4, 1, 0, 0));
        all.put("SURE and NEVER", x -> x.name(1, 1, 0, 0) + x.name(4, 1, 0, 0));
        all.put("no STRANGERS", x -> x.strange(0));
        return all;
    }

    /** As some(), PICTURE 1 may be ahead of PICTURE 0, has HEADS ahead of the last one of PICTURE 0, and IMAGE 0 has HEADS. */
    private static NamelessBox box() {
        NamelessBox x = Edges.some();
        x.clear();
        Edges.typed(x, "person 9 80 3 3;person 20 90 1 3;picture 38 41;picture 40 42;head 0 1 3 20 30;head 1 2 3 20 25;"
                + "head 0 3 3 20 21;name 2 0 0 0;join 0 1 7;strange 2;");
        x.read();
        x.image(0);
        x.head(1, 3, 1, 19, 22);
        x.near(0, 4);
        x.clear();
        return Edges.typed(x, "person 1 90 3 3;person 30 90 1 3;picture 38 41;picture 40 42;head 0 1 3 20 30;head 1 2 3 5 8;"
                + "head 0 3 3 30 41;name 2 0 1 0;join 0 1 7;strange 2;");
    }

    private static List<Object> answer(NamelessBox x, ToLongFunction<NamelessBox> question) {
        List<Object> all = new ArrayList<>();
        all.add(question.applyAsLong(x));
        all.add(Edges.fractionOf(x));
        return all;
    }

    private static void oneBehindTheOther() {
        for (Map.Entry<String, ToLongFunction<NamelessBox>> first : questions().entrySet()) {
            Edges.about(16, "asked behind " + first.getKey());
            for (Map.Entry<String, ToLongFunction<NamelessBox>> second : questions().entrySet()) {
                NamelessBox x = box();
                first.getValue().applyAsLong(x);
                String was = Edges.fractionOf(x);
                List<Object> got = answer(x, second.getValue());
                List<Object> due = answer(box(), second.getValue());
                if (due.get(1).equals(Edges.fractionOf(box()))) {
                    // a question that leaves THE FRACTION leaves that of the one ahead of it
                    due.set(1, was);
                }
                Edges.same(second.getKey(), got, due);
            }
        }
    }

    private static void behindAChange() {
        for (Map.Entry<String, ToLongFunction<NamelessBox>> change : changes().entrySet()) {
            Edges.about(16, "asked ahead of and behind " + change.getKey());
            for (Map.Entry<String, ToLongFunction<NamelessBox>> question : questions().entrySet()) {
                NamelessBox x = box();
                for (ToLongFunction<NamelessBox> any : questions().values()) {
                    any.applyAsLong(x);
                }
                // so that THE FRACTION is the same in both
                x.ahead(0, 1);
                change.getValue().applyAsLong(x);
                NamelessBox y = box();
                y.ahead(0, 1);
                change.getValue().applyAsLong(y);
                Edges.same(question.getKey(), answer(x, question.getValue()), answer(y, question.getValue()));
            }
        }
    }

    public static void main(String[] args) {
        oneBehindTheOther();
        behindAChange();
        Edges.done();
    }
}
