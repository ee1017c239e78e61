/** Refused calls: the answer is the one that is due, and the house is then as its twin, which never got the call. */
final class Refused {
    interface Story {
        HonestHouse tell();
    }

    interface Asked {
        long of(HonestHouse x);
    }

    /** A call with one argument left open. */
    interface AskedWith {
        long of(HonestHouse x, int v);
    }

    private static final int NO_SUCH = -1;

    private final Check check;
    private final Story story;
    private final String twin;

    Refused(Check check, Story story) {
        this.check = check;
        this.story = story;
        this.twin = Sight.of(story.tell());
    }

    void due(long want, String call, Asked asked) {
        HonestHouse x = story.tell();
        check.due(call, asked.of(x), want);
        unchanged(call, x);
    }

    void noSuch(String call, Asked asked) {
        HonestHouse x = story.tell();
        check.noSuch(call, () -> asked.of(x));
        unchanged(call, x);
    }

    void notNow(String call, Asked asked) {
        HonestHouse x = story.tell();
        check.notNow(call, () -> asked.of(x));
        unchanged(call, x);
    }

    /** An argument is taken from the least to the greatest, and on both sides of them answered with -1. */
    void outside(String argument, int least, int greatest, AskedWith asked) {
        for (int v : taken(least, greatest)) {
            check.holds(argument + " " + v + " is taken", asked.of(story.tell(), v) != NO_SUCH);
        }
        for (int v : tooSmall(least)) {
            due(NO_SUCH, argument + " " + v, x -> asked.of(x, v));
        }
        for (int v : tooLarge(least, greatest)) {
            due(NO_SUCH, argument + " " + v, x -> asked.of(x, v));
        }
    }

    /** The same where the answer is an IllegalArgumentException. */
    void thrownOutside(String argument, int least, int greatest, AskedWith asked) {
        for (int v : taken(least, greatest)) {
            check.holds(argument + " " + v + " is taken", !throwsNoSuch(asked, v));
        }
        for (int v : tooSmall(least)) {
            noSuch(argument + " " + v, x -> asked.of(x, v));
        }
        for (int v : tooLarge(least, greatest)) {
            noSuch(argument + " " + v, x -> asked.of(x, v));
        }
    }

    private static int[] taken(int least, int greatest) {
        return new int[] {least, (least + greatest) / 2, greatest};
    }

    private static int[] tooSmall(int least) {
        return new int[] {least - 1, least - 2, least - 65536, Integer.MIN_VALUE, Integer.MIN_VALUE + 1};
    }

    /** Beside the nearest and the farthest, those that would be in range if they were cut to fewer bits. */
    private static int[] tooLarge(int least, int greatest) {
        return new int[] {greatest + 1, greatest + 2, least + 65536, greatest + (1 << 24), Integer.MAX_VALUE};
    }

    private boolean throwsNoSuch(AskedWith asked, int v) {
        try {
            asked.of(story.tell(), v);
        } catch (IllegalStateException e) {
            return false;
        } catch (IllegalArgumentException e) {
            return true;
        }
        return false;
    }

    private void unchanged(String call, HonestHouse x) {
        check.holds(call + ": it changed something", Sight.of(x).equals(twin));
    }
}
