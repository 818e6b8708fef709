import java.util.function.Supplier;

/** Looks at single calls, each on a list of its own that is made for it, and at what they change. */
final class Edges {
    static final Class<IllegalArgumentException> ARGUMENT = IllegalArgumentException.class;
    static final Class<IllegalStateException> STATE = IllegalStateException.class;
    static final Class<IndexOutOfBoundsException> INDEX = IndexOutOfBoundsException.class;
    static final int LEAST = Integer.MIN_VALUE;
    static final int GREATEST = Integer.MAX_VALUE;

    /** Some calls on a list, the last one of which answers. */
    interface Calls {
        Object on(TimberList list);
    }

    private final Check check = new Check();

    /** The call throws just this exception, and a list tells the same afterwards as one that was not asked. */
    void refuses(Class<? extends RuntimeException> due, String what, Supplier<TimberList> made, Calls calls) {
        leavesAll("throws." + due.getSimpleName(), what, made, calls);
    }

    /** The call answers this, and changes nothing. */
    void asks(Object due, String what, Supplier<TimberList> made, Calls calls) {
        leavesAll(String.valueOf(due), what, made, calls);
    }

    /** The calls' last one answers this; it may change the list. */
    void answers(Object due, String what, Supplier<TimberList> made, Calls calls) {
        TimberList list = made.get();
        check.is(what, Story.answerTo(() -> calls.on(list)), String.valueOf(due));
    }

    /** After the first calls the list tells the same as after the second ones. */
    void same(String what, Supplier<TimberList> made, Calls first, Calls second) {
        TimberList one = made.get();
        TimberList other = made.get();
        Story.answerTo(() -> first.on(one));
        Story.answerTo(() -> second.on(other));
        sameStory(what, one, other);
    }

    void end(String name) {
        check.end(name);
    }

    /** The numbers that are not within 0 to one less than a count: beside it, and far from it. */
    static int[] outside(int count) {
        return new int[] {-1, count, -2, count + 1, LEAST, LEAST + 1, GREATEST, GREATEST - 1};
    }

    /** The numbers that are not within these bounds: beside them, and far from them. */
    static int[] outside(int least, int greatest) {
        return new int[] {least - 1, greatest + 1, -least - 1, -greatest - 1, LEAST, LEAST + 1, GREATEST, GREATEST - 1};
    }

    private void leavesAll(String due, String what, Supplier<TimberList> made, Calls calls) {
        TimberList list = made.get();
        check.is(what, Story.answerTo(() -> calls.on(list)), due);
        sameStory(what + " leaves all as it is", list, made.get());
    }

    /** Of two stories only the first lines that differ are worth reading. */
    private void sameStory(String what, TimberList one, TimberList other) {
        String[] first = Story.of(one).split("\n");
        String[] second = Story.of(other).split("\n");
        int i = 0;
        while (i < Math.min(first.length, second.length) - 1 && first[i].equals(second[i])) {
            i++;
        }
        check.is(what + ": the story's line " + i, first[i], second[i]);
        check.is(what + ": the story's length", first.length, second.length);
    }
}
