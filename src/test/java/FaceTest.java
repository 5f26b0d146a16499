import java.lang.reflect.Constructor;
import java.lang.reflect.Field;
import java.lang.reflect.Method;
import java.lang.reflect.Modifier;
import java.util.Set;
import java.util.TreeSet;

/** The public face, just as the document has it, and nothing beside it. */
public final class FaceTest {
    private static final String FACE = "int status();long top();long bottom();boolean tray(int,int,int);boolean write(int,int,long);"
        + "long read(int,int);boolean pour(int,int,int,int,int);int feed(int,int,int,int,int);int land(int);int reigns(int);int fault(int);"
        + "int told(int);int kind(int);int good(int,int);int sheets(int,int,int);int goods(int,int);int silver(int);int worth(int,int);"
        + "int richest();int pay(int,int,int);int buy(int,int,int);int sell(int,int,int);int tear(int,int,int);int mend(int,int,int);"
        + "boolean give(int,int,int,int);int burn(int,int,int);int cross(int,int,int);int renew(int);int month(int);boolean rule(int,int);"
        + "int bring(int,int);int room();int levelIn(int);int monthsTill(int);int fewest(int,int);int payWith(int,int,int);int payable(int);"
        + "int firstNot(int);int couldBuy(int,int);long changes(int);int leastSheets(int);long baskets(int);int mostValue(int);"
        + "int loses(int,int);int losers(int);int keptOf(int);boolean forged(int,int,int);int looks(int,int);int plan(int,int);"
        + "int planFirst(int,int);int game(int,int,int);int moveOf(int,int,int);int copySheets(int,int);int count(int);int live(int);"
        + "int lived(int);boolean mean(int,int);int mark();int undo();";

    private static final Check c = new Check();

    public static void main(String[] args) {
        Set<String> due = new TreeSet<>(Set.of(FACE.split(";")));
        Set<String> shown = new TreeSet<>();
        Set<String> publicNames = new TreeSet<>();
        for (Method m : BarkMoney.class.getDeclaredMethods()) {
            if (!Modifier.isPrivate(m.getModifiers())) {
                StringBuilder s = new StringBuilder(m.getReturnType() + " " + m.getName() + "(");
                for (Class<?> p : m.getParameterTypes()) {
                    s.append(s.charAt(s.length() - 1) == '(' ? "" : ",").append(p);
                }
                shown.add(s + ")");
                publicNames.add(m.getName());
                c.due(m + " is public, not static", Modifier.isPublic(m.getModifiers()) && !Modifier.isStatic(m.getModifiers()), true);
            }
        }
        c.due("methods " + shown, shown.equals(due), true);
        c.due("59 methods", shown.size(), 59);
        for (Method m : BarkMoney.class.getDeclaredMethods()) {
            c.due(m + " bears a name of its own", Modifier.isPrivate(m.getModifiers()) && publicNames.contains(m.getName()), false);
        }
        for (Field f : BarkMoney.class.getDeclaredFields()) {
            c.due(f + " is private", Modifier.isPrivate(f.getModifiers()), !f.getName().equals("NONE"));
            c.due(f + ": what is static is final", Modifier.isStatic(f.getModifiers()) && !Modifier.isFinal(f.getModifiers()), false);
        }
        Constructor<?>[] made = BarkMoney.class.getDeclaredConstructors();
        c.due("one constructor", made.length, 1);
        c.due("public, without parameters", Modifier.isPublic(made[0].getModifiers()) && made[0].getParameterCount() == 0, true);
        c.due("public and final", Modifier.isPublic(BarkMoney.class.getModifiers()) && Modifier.isFinal(BarkMoney.class.getModifiers()), true);
        for (Class<?> inside : BarkMoney.class.getDeclaredClasses()) {
            c.due(inside + " is static and private", Modifier.isStatic(inside.getModifiers()) && Modifier.isPrivate(inside.getModifiers()), true);
            for (Method m : inside.getDeclaredMethods()) {
                c.due(m + " bears a name of its own", publicNames.contains(m.getName()), false);
                c.due(m + " has at most seven parameters", m.getParameterCount() <= 7, true);
            }
            c.due(inside + " has at most twenty fields", fields(inside) <= 20, true);
        }
        c.due("at most twenty fields", fields(BarkMoney.class) <= 20, true);
        c.due("at most twelve classes", BarkMoney.class.getDeclaredClasses().length < 12, true);
        c.end();
    }

    private static int fields(Class<?> type) {
        int n = 0;
        for (Field f : type.getDeclaredFields()) {
            n += Modifier.isStatic(f.getModifiers()) ? 0 : 1;
        }
        return n;
    }
}
