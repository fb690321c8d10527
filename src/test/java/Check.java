/** Counts answers that are not as due, and tells them. */
final class Check {
    private int calls = 0;
    private int wrong = 0;

    void due(String call, long got, long want) {
        calls++;
        if (got != want) {
            wrong++;
            System.out.println(call + " answered " + got + ", due is " + want);
        }
    }

    void due(String call, boolean isSo) {
        calls++;
        if (!isSo) {
            wrong++;
            System.out.println("not so: " + call);
        }
    }

    /** What element throws: 1 IllegalArgumentException, 2 IllegalStateException, 0 nothing. */
    static int thrownByElement(SlateRows x, int d, int i) {
        try {
            x.element(d, i);
            return 0;
        } catch (IllegalArgumentException e) {
            return 1;
        } catch (IllegalStateException e) {
            return 2;
        }
    }

    /** Puts a row of numbers of a sort on a shelf. */
    static void numbers(SlateRows x, int d, int sort, int... values) {
        if (x.row(d, sort, values.length) != 0) {
            throw new AssertionError("no row for " + values.length + " numbers");
        }
        for (int i = 0; i < values.length; i++) {
            if (x.put(d, i, values[i]) != 0) {
                throw new AssertionError("no place for number " + i);
            }
        }
    }

    /** Reads a roof from a text by way of shelf 7, which holds it then. */
    static int roof(SlateRows x, String text) {
        int[] bytes = new int[text.length()];
        for (int i = 0; i < bytes.length; i++) {
            bytes[i] = text.charAt(i);
        }
        numbers(x, 7, 0, bytes);
        return x.roof(7);
    }

    /** A new object with a roof that must be well. */
    static SlateRows withRoof(String text) {
        SlateRows x = new SlateRows();
        int answer = roof(x, text);
        if (answer <= 0) {
            throw new AssertionError("roof " + text + " answered " + answer);
        }
        return x;
    }

    /** Lays slates by way of shelf 6, which holds them then. */
    static int lay(SlateRows x, int row, int... slates) {
        numbers(x, 6, 2, slates);
        return x.lay(row, 6);
    }

    /** Judges slates by way of shelf 6, which holds them then. */
    static int judge(SlateRows x, int row, int... slates) {
        numbers(x, 6, 2, slates);
        return x.judge(row, 6);
    }

    void finish(String name) {
        System.out.println(name + ": " + calls + " answers, " + wrong + " not as due");
        if (wrong != 0) {
            System.exit(1);
        }
    }
}
