import java.util.concurrent.Callable;

/** Compares what calls answer with what is due; an exception counts as its class's plain name. */
final class Check {
    private int wrong;
    private String place = "";

    void at(String newPlace) {
        place = newPlace;
    }

    void is(Object due, Callable<?> call) {
        same(due instanceof Class<?> c ? c.getSimpleName() : String.valueOf(due), answer(call));
    }

    void same(String due, String answered) {
        if (!due.equals(answered)) {
            wrong++;
            System.out.println(place + ": answered " + answered + ", due is " + due + " " + callersLine());
        }
    }

    int wrongs() {
        return wrong;
    }

    void end() {
        System.out.println(wrong == 0 ? "all answers are as due" : wrong + " answers are not as due");
        if (wrong != 0) {
            System.exit(1);
        }
    }

    static String answer(Callable<?> call) {
        try {
            return String.valueOf(call.call());
        } catch (Exception e) {
            return e.getClass().getSimpleName();
        }
    }

    private static String callersLine() {
        for (StackTraceElement frame : new Throwable().getStackTrace()) {
            if (!frame.getClassName().equals("Check") && !frame.getClassName().equals("RosterCalls")) {
                return "(" + frame.getFileName() + ":" + frame.getLineNumber() + ")";
            }
        }
        return "";
    }
}
