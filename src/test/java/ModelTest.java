import java.lang.reflect.InvocationTargetException;
import java.lang.reflect.Method;
import java.util.ArrayList;
import java.util.Arrays;
import java.util.HashMap;
import java.util.List;
import java.util.Map;
import java.util.Random;

/** Long runs of calls with seeded numbers: SlipArchive answers what the Model answers. */
final class ModelTest {
    private static final int RUNS = Integer.getInteger("runs", 3000);
    private static final int CALLS = 500;

    private final Random random;
    private final SlipArchive x = new SlipArchive();
    private final Model model = new Model();
    private final List<String> calls = new ArrayList<>();
    private final Map<String, Method> models;
    private final Method[] faces;

    private ModelTest(long seed, Method[] faces, Map<String, Method> models) {
        random = new Random(seed);
        this.faces = faces;
        this.models = models;
    }

    public static void main(String[] args) {
        Map<String, Method> models = new HashMap<>();
        for (Method method : Model.class.getDeclaredMethods()) {
            models.put(method.getName(), method);
        }
        Method[] faces = Arrays.stream(SlipArchive.class.getDeclaredMethods())
            .filter(method -> java.lang.reflect.Modifier.isPublic(method.getModifiers())).toArray(Method[]::new);
        Arrays.sort(faces, (a, b) -> a.getName().compareTo(b.getName()));
        Due.same("calls of the face", 46, faces.length);
        for (int run = 0; run < RUNS; run++) {
            if (!new ModelTest(run, faces, models).isRight()) {
                break;
            }
        }
        Due.end();
    }

    private boolean isRight() {
        boolean busy = random.nextInt(3) > 0;
        if (busy) {
            read("load", archive());
        }
        while (calls.size() < CALLS) {
            int what = random.nextInt(100);
            boolean right = what < 3 ? read("play", script())
                : what < 4 && random.nextInt(busy ? 6 : 1) == 0 ? read("load", archive())
                : what < 45 ? does("slip", "days", "giveBack", "slip", "misfile", "giveBack", "days", "slip")
                : does(faces[random.nextInt(faces.length)]);
            if (!right) {
                return false;
            }
        }
        return true;
    }

    private boolean does(String... names) {
        String name = names[random.nextInt(names.length)];
        for (Method face : faces) {
            if (face.getName().equals(name)) {
                return does(face);
            }
        }
        return false;
    }

    private boolean does(Method face) {
        Object[] values = new Object[face.getParameterCount()];
        for (int i = 0; i < values.length; i++) {
            values[i] = number(face.getName(), i);
        }
        return same(face, values);
    }

    private boolean same(Method face, Object... values) {
        String answer = answer(face, x, values);
        String due = answer(models.get(face.getName()), model, values);
        calls.add(face.getName() + Arrays.toString(values) + " = " + answer);
        Due.same(face.getName(), due, answer);
        if (!answer.equals(due)) {
            calls.forEach(System.out::println);
        }
        return answer.equals(due);
    }

    private static String answer(Method method, Object on, Object[] values) {
        try {
            return method.invoke(on, values) + "";
        } catch (InvocationTargetException thrown) {
            return thrown.getCause().getClass().getName();
        } catch (IllegalAccessException closed) {
            return "not to be called";
        }
    }

    /** A number that fits the call most of the time. */
    private int number(String call, int place) {
        if (random.nextInt(60) == 0) {
            return new int[] {Integer.MIN_VALUE, Integer.MAX_VALUE, -1, -2, 10000, 24, 100, 61}[random.nextInt(8)];
        }
        return switch (call) {
            case "feed" -> random.nextInt();
            case "load", "play" -> random.nextInt(30) - 2;
            case "size" -> random.nextInt(14) - 1;
            case "account" -> random.nextInt(13) - 1;
            case "formattedByte" -> random.nextInt(130) - 2;
            case "marked", "found", "looks", "refilePlace" -> mark();
            case "at", "waitsFor", "servedIn", "dropSlip" -> random.nextInt(random.nextInt(26) + 1) - random.nextInt(9) / 8;
            case "lookedAt" -> place == 0 ? mark() : random.nextInt(7) - 1;
            case "servedBy", "waitingIn" -> random.nextInt(63) - 1;
            case "days" -> random.nextInt(7) > 0 ? 1 + random.nextInt(3) : random.nextInt(63) - 1;
            case "servedWith" -> random.nextInt(8);
            case "missedAfter", "check" -> random.nextInt(4) == 0 ? random.nextInt(102) - 1 : random.nextInt(6);
            case "slip", "why", "cause" -> place == 0 ? reader() : folder();
            case "folder" -> place == 0 ? folder() : random.nextInt(9) - 1;
            case "reader" -> place == 0 ? reader() : random.nextInt(5) - 1;
            case "waiting" -> place == 0 ? random.nextInt(17) - 1 : random.nextInt(7) - 1;
            case "setEmbargo" -> place == 0 ? folder() : embargo();
            case "misfile" -> place == 0 ? folder() : random.nextInt(x.size(6) + 2) - 1;
            default -> folder();
        };
    }

    private int folder() {
        // some are asked for more than others, and lent ones are given back more often
        for (int i = 0; i < 3; i++) {
            int folder = random.nextInt(x.size(5));
            if (x.folder(folder, 2) == 1 && random.nextBoolean()) {
                return folder;
            }
        }
        return random.nextInt(x.size(5) + 1) - (random.nextInt(20) == 0 ? 1 : 0);
    }

    private int reader() {
        return random.nextInt(10) > 0 ? random.nextInt(x.size(3)) : random.nextInt(10) - 1;
    }

    private int mark() {
        return random.nextInt(3) > 0 ? x.folder(random.nextInt(x.size(5)), 0) + (random.nextInt(4) == 0 ? 1 : 0)
            : random.nextInt(10100) - 50;
    }

    private int embargo() {
        return random.nextBoolean() ? x.size(0) + random.nextInt(5) : random.nextInt(1002) - 1;
    }

    /** Feeds a text with blanks behind it, and has its bytes read. */
    private boolean read(String how, String text) {
        boolean right = true;
        if (random.nextInt(12) == 0 && text.length() > 1) {
            int cut = random.nextInt(text.length());
            String put = new String[] {"", ";", "?", " ", "0", "x", " 7 ", "\n", "day", "\u00ff", "99999"}[random.nextInt(11)];
            text = text.substring(0, cut) + put + text.substring(cut + random.nextInt(2));
        }
        // what feed left in the buffer by itself would spoil the text
        right &= same(face("load"), 0);
        for (int from = 0; from < text.length(); from += 20) {
            Object[] parts = new Object[5];
            for (int part = 0; part < 5; part++) {
                int value = 0;
                for (int i = 0; i < 4; i++) {
                    int at = from + part * 4 + i;
                    value = value << 8 | (at < text.length() ? text.charAt(at) : ' ');
                }
                parts[part] = value;
            }
            right &= same(face("feed"), parts);
        }
        right &= same(face(how), Math.min(text.length() - (random.nextInt(20) == 0 ? 1 : 0), 700));
        right &= same(face("errorPosition"));
        return right;
    }

    private Method face(String name) {
        return Arrays.stream(faces).filter(method -> method.getName().equals(name)).findFirst().orElseThrow();
    }

    private String blank() {
        return new String[] {" ", " ", " ", "  ", "\n", " 0"}[random.nextInt(6)];
    }

    private String archive() {
        StringBuilder text = new StringBuilder("archive " + (1 + random.nextInt(random.nextInt(14) + 1)) + blank());
        text.append(1 + random.nextInt(6)).append(blank()).append(1 + random.nextInt(8)).append(blank());
        text.append(1 + random.nextInt(5)).append(';');
        List<Integer> marks = new ArrayList<>();
        int many = 1 + random.nextInt(random.nextInt(24) + 1) + (random.nextInt(30) == 0 ? 3 : 0);
        int spread = random.nextBoolean() ? 60 : 9970;
        for (int i = 0; i < many; i++) {
            int mark = random.nextInt(spread) + i;
            if (marks.contains(mark) && random.nextInt(40) > 0) {
                continue;
            }
            marks.add(mark);
        }
        if (random.nextInt(4) > 0) {
            marks.sort(null);
        }
        for (int mark : marks) {
            text.append("folder").append(blank()).append(mark);
            if (random.nextInt(5) == 0) {
                text.append(" until ").append(random.nextInt(random.nextInt(4) == 0 ? 1010 : 12));
            }
            text.append(';').append(random.nextInt(8) == 0 ? "\n" : "");
        }
        return text.toString();
    }

    private String script() {
        StringBuilder text = new StringBuilder();
        int many = random.nextInt(14) + (random.nextInt(10) == 0 ? 9 : 0);
        boolean wild = random.nextInt(6) == 0;
        for (int i = 0; i < many; i++) {
            int mark = random.nextInt(12) == 0 ? mark() : x.folder(Math.max(0, Math.min(folder(), x.size(5) - 1)), 0);
            mark = Math.max(0, mark);
            int reader = random.nextInt(wild ? 9 : x.size(3));
            text.append(switch (random.nextInt(9)) {
                case 0, 1, 2 -> "slip " + reader + blank() + mark;
                case 3 -> "drop " + random.nextInt(wild ? 17 : Math.max(1, x.size(9)));
                case 4 -> "return " + mark;
                case 5 -> "day " + (wild ? random.nextInt(62) : 1 + random.nextInt(3));
                case 6 -> "misfile " + mark + blank() + random.nextInt(wild ? 25 : Math.max(1, x.size(6)));
                case 7 -> "check " + (wild ? random.nextInt(101) : 1 + random.nextInt(4));
                default -> "until " + mark + blank() + random.nextInt(wild ? 1001 : x.size(0) + 3);
            }).append(';');
        }
        return text.toString();
    }
}
