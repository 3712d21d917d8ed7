/** Counts the answers that are not as due, and ends a test with exit code 1 if there was one. */
final class Expect {
    private int calls;
    private int wrong;

    interface Call {
        Object run();
    }

    void same(String what, long got, long due) {
        calls++;
        if (got != due) {
            tell(what, String.valueOf(got), String.valueOf(due));
        }
    }

    void same(String what, boolean got, boolean due) {
        calls++;
        if (got != due) {
            tell(what, String.valueOf(got), String.valueOf(due));
        }
    }

    void same(String what, char got, char due) {
        calls++;
        if (got != due) {
            tell(what, String.valueOf(got), String.valueOf(due));
        }
    }

    void sameReal(String what, double got, double due) {
        calls++;
        if (got != due) {
            tell(what, String.valueOf(got), String.valueOf(due));
        }
    }

    /** The very class counts, not one below it. */
    void thrown(String what, Class<? extends RuntimeException> due, Call call) {
        calls++;
        Object got;
        try {
            got = call.run();
        } catch (RuntimeException e) {
            if (e.getClass() != due) {
                tell(what, e.toString(), due.getName());
            }
            return;
        }
        tell(what, String.valueOf(got), due.getName());
    }

    private void tell(String what, String got, String due) {
        wrong++;
        System.out.println(what + ": got " + got + ", due is " + due);
    }

    void end() {
        System.out.println(calls + " checks, " + wrong + " wrong");
        if (wrong != 0) {
            System.exit(1);
        }
    }
}
