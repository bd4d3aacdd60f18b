/** Edges: the last number that a call takes, the first one it refuses, and that a refused call changes nothing. */
final class Edge {
    interface Call {
        long on(NineNoons x);
    }

    interface NumberCall {
        long on(NineNoons x, int number);
    }

    private final Due due;

    Edge(Due due) {
        this.due = due;
    }

    /** A call that is refused with an answer, and changes nothing. */
    void refused(String sentence, long want, Scene scene, Call call) {
        due.is(sentence + ", of " + scene, call.on(scene.make()), want);
        changesNothing(sentence, scene, call);
    }

    /** A call behind which all is as ahead of it. */
    void changesNothing(String sentence, Scene scene, Call call) {
        becomes(sentence, scene, call, scene);
    }

    /** A call by which one scene becomes like another one. */
    void becomes(String sentence, Scene scene, Call call, Scene then) {
        for (int part = 0; part < Witness.PARTS; part++) {
            NineNoons x = scene.make();
            call.on(x);
            String told = Witness.told(x, part);
            due.isTrue(sentence + ", of " + scene + ", part " + part + ":\n  " + told + "\n  due is\n  " + then.told(part)
                + "\n ", told.equals(then.told(part)));
        }
    }

    /** Numbers from least to most are taken; the next ones, and the farthest, are BAD and change nothing. */
    void numbers(String sentence, int least, int most, Scene scene, NumberCall call) {
        for (int number : new int[] {least, most}) {
            due.isTrue(sentence + ": " + number + " is taken", call.on(scene.make(), number) != NineNoons.BAD);
        }
        for (long number : new long[] {least - 1L, Integer.MIN_VALUE}) {
            if (number < least && number >= Integer.MIN_VALUE) {
                refused(sentence + ": " + number, NineNoons.BAD, scene, x -> call.on(x, (int) number));
            }
        }
        for (long number : new long[] {most + 1L, Integer.MAX_VALUE}) {
            if (number > most && number <= Integer.MAX_VALUE) {
                refused(sentence + ": " + number, NineNoons.BAD, scene, x -> call.on(x, (int) number));
            }
        }
    }
}
