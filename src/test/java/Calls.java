import java.lang.reflect.InvocationTargetException;
import java.lang.reflect.Method;
import java.util.ArrayList;
import java.util.List;

/** Calls written as texts, as in "leaf NONE 0 10", and what they answer, as texts too. */
final class Calls {
    private static final String[] NAMES = {"EAST", "NORTH", "WEST", "SOUTH"};

    private Calls() {
    }

    /** The answer, "nothing" of a call without one, or the name of the exception that the class itself throws. */
    static String answer(TakeoffSheet sheet, String call) {
        String[] words = call.split(" ");
        Object[] numbers = new Object[words.length - 1];
        for (int i = 0; i < numbers.length; i++) {
            numbers[i] = number(words[i + 1]);
        }
        try {
            Object answer = method(words[0], numbers.length).invoke(sheet, numbers);
            return answer == null ? "nothing" : answer.toString();
        } catch (InvocationTargetException e) {
            return thrown(e.getCause());
        } catch (IllegalAccessException e) {
            throw new IllegalArgumentException(call, e);
        }
    }

    static boolean isThrown(String answer) {
        return answer.endsWith("Exception");
    }

    private static String thrown(Throwable thrown) {
        StackTraceElement[] trace = thrown.getStackTrace();
        boolean byTheClass = trace.length > 0 && trace[0].getClassName().startsWith("TakeoffSheet");
        return (byTheClass ? "" : "the machine's ") + thrown.getClass().getSimpleName();
    }

    private static Method method(String name, int count) {
        for (Method method : TakeoffSheet.class.getMethods()) {
            if (method.getName().equals(name) && method.getParameterCount() == count) {
                return method;
            }
        }
        throw new IllegalArgumentException("no call " + name + " with " + count + " arguments");
    }

    private static int number(String word) {
        return switch (word) {
            case "MIN" -> Integer.MIN_VALUE;
            case "MAX" -> Integer.MAX_VALUE;
            case "NONE" -> TakeoffSheet.NONE;
            case "EAST" -> TakeoffSheet.EAST;
            case "NORTH" -> TakeoffSheet.NORTH;
            case "WEST" -> TakeoffSheet.WEST;
            case "SOUTH" -> TakeoffSheet.SOUTH;
            case "LABOUR" -> TakeoffSheet.LABOUR;
            case "PLANT" -> TakeoffSheet.PLANT;
            case "MATERIAL" -> TakeoffSheet.MATERIAL;
            default -> Integer.parseInt(word);
        };
    }

    /** The calls of a line: "4 times" before it, several with ";" between them, "draw E2 N1" and "floor 2 1". */
    static List<String> of(String line) {
        String[] parts = line.split(" times ");
        int times = parts.length == 2 ? Integer.parseInt(parts[0]) : 1;
        List<String> calls = new ArrayList<>();
        for (int i = 0; i < times; i++) {
            for (String part : parts[parts.length - 1].split("; ")) {
                addCalls(calls, part);
            }
        }
        return calls;
    }

    private static void addCalls(List<String> calls, String part) {
        String[] words = part.split(" ");
        if (words[0].equals("draw")) {
            for (int i = 1; i < words.length; i++) {
                calls.add("wall " + NAMES["ENWS".indexOf(words[i].charAt(0))] + " " + words[i].substring(1));
            }
        } else if (words[0].equals("floor")) {
            calls.add("begin 0 0");
            addCalls(calls, "draw E" + words[1] + " N" + words[2] + " W" + words[1] + " S" + words[2]);
        } else {
            calls.add(part);
        }
    }
}
