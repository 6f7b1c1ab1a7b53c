/** What the tests share: it compares answers, and counts the wrong ones. */
final class Check {
    interface Call {
        double answer();
    }

    private static int checked;
    private static int wrong;

    private Check() {
    }

    static void is(String label, double want, double got) {
        checked++;
        if (got != want) {
            wrong++;
            System.out.println(label + ": answered " + got + ", due is " + want);
        }
    }

    static void isLong(String label, long want, long got) {
        checked++;
        if (got != want) {
            wrong++;
            System.out.println(label + ": answered " + got + ", due is " + want);
        }
    }

    static void isTrue(String label, boolean holds) {
        checked++;
        if (!holds) {
            wrong++;
            System.out.println(label + ": does not hold");
        }
    }

    /** The call has to throw just this class, and to change nothing that the digest shows. */
    static void refuses(String label, Blockduty x, Class<?> want, Call call) {
        checked++;
        long before = x.digest();
        Class<?> thrown = null;
        try {
            call.answer();
        } catch (RuntimeException e) {
            thrown = e.getClass();
            isByTheClass(label, e);
        }
        if (thrown != want) {
            wrong++;
            System.out.println(label + ": threw " + thrown + ", due is " + want);
        }
        if (x.digest() != before) {
            wrong++;
            System.out.println(label + ": changed the digest");
        }
    }

    /** The machine throws in its own library; the class has to look first, and to throw itself. */
    static void isByTheClass(String label, RuntimeException thrown) {
        StackTraceElement[] trace = thrown.getStackTrace();
        isTrue(label + ": thrown by the class itself",
                trace.length > 0 && trace[0].getClassName().equals("Blockduty"));
    }

    static void outside(String label, Blockduty x, Call call) {
        refuses(label, x, IndexOutOfBoundsException.class, call);
    }

    static void illegal(String label, Blockduty x, Call call) {
        refuses(label, x, IllegalArgumentException.class, call);
    }

    static void notNow(String label, Blockduty x, Call call) {
        refuses(label, x, IllegalStateException.class, call);
    }

    static void end() {
        System.out.println(checked + " checks, " + wrong + " wrong");
        if (wrong > 0 || checked == 0) {
            System.exit(1);
        }
    }
}
