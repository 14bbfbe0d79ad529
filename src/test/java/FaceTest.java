import java.lang.reflect.Constructor;
import java.lang.reflect.Field;
import java.lang.reflect.Method;
import java.lang.reflect.Modifier;
import java.nio.file.Files;
import java.nio.file.Path;
import java.util.TreeSet;
import java.util.regex.Matcher;
import java.util.regex.Pattern;

/** Promise 1, the constants, and a face that is the document's and no more. */
public final class FaceTest {
    private static final String[] METHODS = {
        "int answer(int,int,int,int)", "int blind(int,int)", "int bridge(int,int,int)", "int broken()", "int chip(int)",
        "int chipOf(int,int)", "int cost(int)", "int count(int)", "int cut(int,int)", "int end(int)", "int fault()",
        "int feed(long)", "int found()", "int go(int)", "int join(int,int,int)", "int lay(int,int,int)",
        "int likely(int,int)", "int log(int)", "int net()", "int netOf(int,int)", "int next(int,int)", "int now(int)",
        "int open(int,int,boolean)", "int part(int,int)", "int parts()", "int path(int,int,int)", "int rows(int)",
        "int scan(boolean,int,int,int,int)", "int sheet(int,int,int)", "int stick(int,int)", "int tick(boolean,boolean)",
        "int ticks(int,int,int)", "int word(int,int,int)", "long identity(int)"};

    public static void main(String[] args) throws Exception {
        Check check = new Check();
        check.due("BAD", EdgeChain.BAD, -1);
        check.due("STATE", EdgeChain.STATE, -2);
        check.due("FULL", EdgeChain.FULL, -3);
        check.due("NONE", EdgeChain.NONE, -4);
        members(check);
        document(check);
        newObject(check);
        check.finish();
    }

    /** The list above is the document's, where that can be read. */
    private static void document(Check check) throws Exception {
        Path path = Path.of("../shared/DOC.md");
        if (!Files.isReadable(path)) {
            System.out.println(path + " can not be read: the face is not looked up");
            return;
        }
        TreeSet<String> told = new TreeSet<>();
        Matcher m = Pattern.compile("(?m)^    public (int|long) (\\w+\\(.*\\));$").matcher(Files.readString(path));
        while (m.find()) {
            told.add(m.group(1) + " " + m.group(2).replaceAll(" \\w+(?=[,)])", "").replace(", ", ","));
        }
        check.due("the document's face " + told, told.equals(new TreeSet<>(java.util.List.of(METHODS))) ? 1 : 0, 1);
    }

    private static void members(Check check) {
        check.due("public final", EdgeChain.class.getModifiers() & (Modifier.PUBLIC | Modifier.FINAL), Modifier.PUBLIC | Modifier.FINAL);
        TreeSet<String> methods = new TreeSet<>();
        TreeSet<String> hidden = new TreeSet<>();
        for (Method m : EdgeChain.class.getDeclaredMethods()) {
            StringBuilder s = new StringBuilder(m.getReturnType() + " " + m.getName() + "(");
            for (Class<?> c : m.getParameterTypes()) {
                s.append(s.charAt(s.length() - 1) == '(' ? "" : ",").append(c);
            }
            if (Modifier.isPublic(m.getModifiers())) {
                methods.add(s.append(")").toString());
            } else {
                check.due("private: " + m, Modifier.isPrivate(m.getModifiers()) ? 1 : 0, 1);
                hidden.add(m.getName());
            }
        }
        check.due("methods " + methods, methods.equals(new TreeSet<>(java.util.List.of(METHODS))) ? 1 : 0, 1);
        for (String m : METHODS) {
            String name = m.substring(m.indexOf(' ') + 1, m.indexOf('('));
            check.due("no private method is called " + name, hidden.contains(name) ? 1 : 0, 0);
        }
        int constants = 0;
        for (Field f : EdgeChain.class.getDeclaredFields()) {
            boolean isPublic = Modifier.isPublic(f.getModifiers());
            constants += isPublic ? 1 : 0;
            check.due("private or constant: " + f, isPublic || Modifier.isPrivate(f.getModifiers()) ? 1 : 0, 1);
        }
        check.due("constants", constants, 4);
        Constructor<?>[] made = EdgeChain.class.getDeclaredConstructors();
        check.due("constructors", made.length, 1);
        check.due("its parameters", made[0].getParameterCount(), 0);
    }

    private static void newObject(Check check) {
        EdgeChain x = new EdgeChain();
        for (int what = 0; what < 10; what++) {
            check.due("count(" + what + ")", x.count(what), 0);
        }
        check.due("count(10)", x.count(10), Check.NONE);
        check.due("now(0)", x.now(0), 0);
        check.due("now(1)", x.now(1), 0);
        check.due("fault()", x.fault(), 0);
        check.due("log(0)", x.log(0), Check.NONE);
        for (int k = 0; k < 4; k++) {
            check.due("lay(" + k + ", 0, 0)", x.lay(k, 0, 0), -11);
        }
        check.due("part(0, 0)", x.part(0, 0), Check.BAD);
        check.due("chipOf(0, 0)", x.chipOf(0, 0), Check.BAD);
        check.due("netOf(0, 0)", x.netOf(0, 0), Check.BAD);
        EdgeChain other = Check.board(Check.THREE, 0);
        other.net();
        check.due("objects are apart", x.count(0) + x.count(1) + x.count(4), 0);
    }
}
