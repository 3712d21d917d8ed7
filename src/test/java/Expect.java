/** Counts the answers that are not as due, and ends a test with exit code 1 if there was one. */
final class Expect {
    private int calls;
    private int wrong;

    interface Call {
        Object run();
    }

    void same(String what, long got, long due) {
        calls++;
        if (got != due) {
            tell(what, String.valueOf(got), String.valueOf(due));
        }
    }

    void same(String what, boolean got, boolean due) {
        calls++;
        if (got != due) {
            tell(what, String.valueOf(got), String.valueOf(due));
        }
    }

    void same(String what, char got, char due) {
        calls++;
        if (got != due) {
            tell(what, String.valueOf(got), String.valueOf(due));
        }
    }

    void sameReal(String what, double got, double due) {
        calls++;
        if (got != due) {
            tell(what, String.valueOf(got), String.valueOf(due));
        }
    }

    /** Tells the first line that is not as due. */
    void sameText(String what, String got, String due) {
        calls++;
        if (got.equals(due)) {
            return;
        }
        String[] gotLines = got.split("\n");
        String[] dueLines = due.split("\n");
        int line = 0;
        while (line < gotLines.length - 1 && line < dueLines.length - 1 && gotLines[line].equals(dueLines[line])) {
            line++;
        }
        tell(what, gotLines[line], dueLines[line]);
    }

    /** The very class counts, not one below it. */
    void thrown(String what, Class<? extends RuntimeException> due, Call call) {
        calls++;
        Object got;
        try {
            got = call.run();
        } catch (RuntimeException e) {
            if (e.getClass() != due) {
                tell(what, e.toString(), due.getName());
            }
            return;
        }
        tell(what, String.valueOf(got), due.getName());
    }

    private void tell(String what, String got, String due) {
        wrong++;
        System.out.println(what + ": got " + got + ", due is " + due);
    }

    void end() {
        System.out.println(calls + " checks, " + wrong + " wrong");
        if (wrong != 0) {
            System.exit(1);
        }
    }
}
