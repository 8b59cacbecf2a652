import java.util.ArrayList;
import java.util.Arrays;
import java.util.List;
import java.util.function.Supplier;
import java.util.function.ToIntFunction;

/** A call of the face with what each of its numbers may be, told in the order in which it refuses. */
final class Row {
    interface Call {
        long on(ColdHolds x, int[] a);
    }

    /** What the number at a place may be just yet, and what it may just not be. */
    private record Edge(int at, int least, ToIntFunction<ColdHolds> most, int[] refused, long refusal) {
        int mostOf(ColdHolds x) {
            return most.applyAsInt(x);
        }

        boolean takes(int v, ColdHolds x) {
            return least <= v && v <= mostOf(x) && Arrays.stream(refused).noneMatch(r -> r == v);
        }

        int[] taken(ColdHolds x) {
            return new int[] {least, mostOf(x)};
        }

        int[] outside(ColdHolds x) {
            int[] all = Arrays.copyOf(refused, refused.length + 4);
            all[refused.length] = Integer.MIN_VALUE;
            all[refused.length + 1] = least - 1;
            all[refused.length + 2] = mostOf(x) + 1;
            all[refused.length + 3] = Integer.MAX_VALUE;
            return all;
        }
    }

    private final String name;
    private final Call call;
    private final int[] good;
    private final List<Edge> edges = new ArrayList<>();

    Row(String name, Call call, int... good) {
        this.name = name;
        this.call = call;
        this.good = good;
    }

    /** A range, and what is refused within it. */
    Row from(int at, int least, int most, long refusal, int... refused) {
        return upTo(at, least, x -> most, refusal, refused);
    }

    /** A number of what count(counted) tells, from 0. */
    Row numbered(int at, int counted, long refusal) {
        return upTo(at, 0, x -> x.count(counted) - 1, refusal);
    }

    Row upTo(int at, int least, ToIntFunction<ColdHolds> most, long refusal, int... refused) {
        edges.add(new Edge(at, least, most, refused, refusal));
        return this;
    }

    private boolean isOpen(Supplier<ColdHolds> made) {
        ColdHolds x = made.get();
        boolean open = true;
        for (Edge edge : edges) {
            open &= edge.takes(good[edge.at], x);
        }
        return open;
    }

    private List<Supplier<ColdHolds>> open() {
        return States.OPEN.stream().filter(this::isOpen).toList();
    }

    private int[] with(int at, int v) {
        int[] a = good.clone();
        a[at] = v;
        return a;
    }

    private String told(int[] a) {
        return name + Arrays.toString(a);
    }

    /** Just outside each edge the call refuses as told and changes nothing; at the edges it does not refuse so. */
    Row holds() {
        for (Supplier<ColdHolds> made : States.ALL) {
            long before = Whole.of(made.get());
            for (Edge edge : edges) {
                for (int v : edge.outside(made.get())) {
                    refused(made, before, with(edge.at, v));
                }
            }
            ofSeveralTheFirst(made, before);
        }
        for (Supplier<ColdHolds> made : open()) {
            for (Edge edge : edges) {
                for (int v : edge.taken(made.get())) {
                    int[] a = with(edge.at, v);
                    Due.isNot(told(a), call.on(made.get(), a), edge.refusal);
                }
            }
        }
        return this;
    }

    private void refused(Supplier<ColdHolds> made, long before, int[] a) {
        ColdHolds x = made.get();
        long due = firstRefusal(x, a);
        Due.is(told(a), call.on(x, a), due);
        Due.is(told(a) + " changes nothing", Whole.of(x), before);
    }

    private long firstRefusal(ColdHolds x, int[] a) {
        for (Edge edge : edges) {
            if (!edge.takes(a[edge.at], x)) {
                return edge.refusal;
            }
        }
        throw new IllegalStateException(told(a) + " is not to be refused");
    }

    private void ofSeveralTheFirst(Supplier<ColdHolds> made, long before) {
        for (int set = 1; set < 1 << edges.size(); set++) {
            int[] a = good.clone();
            for (int i = 0; i < edges.size(); i++) {
                if ((set >> i & 1) == 1) {
                    a[edges.get(i).at] = edges.get(i).mostOf(made.get()) + 1;
                }
            }
            refused(made, before, a);
        }
    }

    /** The last number becomes what is told, and the call answers what it was; nothing else changes. */
    Row sets() {
        Edge last = edges.get(edges.size() - 1);
        for (Supplier<ColdHolds> made : open()) {
            ColdHolds x = made.get();
            int[] least = with(last.at, last.least);
            int[] most = with(last.at, last.mostOf(x));
            long was = call.on(x, least);
            Due.is(told(most) + " behind the least", call.on(x, most), least[last.at]);
            Due.is(told(least) + " behind the most", call.on(x, least), most[last.at]);
            Due.is(told(most) + " behind the least again", call.on(x, most), least[last.at]);
            Due.is(name + " set back", call.on(x, with(last.at, (int) was)), most[last.at]);
            Due.is(name + " set back is as ahead", Whole.of(x), Whole.of(made.get()));
        }
        return this;
    }

    /** From none to as many as there may be, each answered by its number and counted; one more is refused. */
    Row adds(int counted, int most, int firstAnswer) {
        ColdHolds x = new ColdHolds();
        for (int i = 0; i < most; i++) {
            Due.is(name + ", counted ahead", x.count(counted), i);
            Due.is(told(good) + " for the " + (i + 1) + ".", call.on(x, good), firstAnswer + i);
        }
        Due.is(name + ", as many as may be", x.count(counted), most);
        for (Edge edge : edges) {
            for (int v : edge.taken(x)) {
                full(with(edge.at, v));
            }
        }
        return this;
    }

    private void full(int[] a) {
        ColdHolds x = States.full();
        Due.is(told(a) + ", one more", call.on(x, a), ColdHolds.FULL);
        Due.is(told(a) + ", one more, changes nothing", Whole.of(x), Whole.of(States.full()));
    }

    /** It changes nothing, whatever it answers. */
    Row asks() {
        for (Supplier<ColdHolds> made : States.ALL) {
            long before = Whole.of(made.get());
            for (Edge edge : edges) {
                for (int v : edge.taken(made.get())) {
                    ColdHolds x = made.get();
                    int[] a = with(edge.at, v);
                    long answer = call.on(x, a);
                    Due.is(told(a) + " again", call.on(x, a), answer);
                    Due.is(told(a) + " changes nothing", Whole.of(x), before);
                }
            }
        }
        return this;
    }
}
