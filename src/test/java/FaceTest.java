import java.lang.reflect.Constructor;
import java.lang.reflect.Field;
import java.lang.reflect.Method;
import java.lang.reflect.Modifier;
import java.util.Arrays;
import java.util.List;
import java.util.Set;
import java.util.TreeSet;

/** The public face is the document's, and nothing else of the class can be seen from outside. */
final class FaceTest {
    private static final List<String> DUE = Arrays.asList(
            "boolean write(int,long)", "int add(int)", "boolean remove(int,int)", "int drop()", "int commit()",
            "int extract(int,int)", "int extracted(int)", "int files()", "int file(int,int)", "int repair()",
            "boolean limit(int)", "int open()", "boolean down()", "boolean damage(int,int,int)", "int at(int,int)",
            "int number()");

    public static void main(String[] args) {
        Set<String> seen = new TreeSet<>();
        Set<String> names = new TreeSet<>();
        for (Method m : SectorArchive.class.getDeclaredMethods()) {
            if (Modifier.isPrivate(m.getModifiers())) {
                continue;
            }
            StringBuilder line = new StringBuilder(m.getReturnType() + " " + m.getName() + "(");
            for (int i = 0; i < m.getParameterCount(); i++) {
                line.append(i == 0 ? "" : ",").append(m.getParameterTypes()[i]);
            }
            seen.add(line.append(")").toString());
            names.add(m.getName());
        }
        Rig.same("the methods " + seen, seen.equals(new TreeSet<>(DUE)) ? 1 : 0, 1);
        for (Method m : SectorArchive.class.getDeclaredMethods()) {
            boolean clash = Modifier.isPrivate(m.getModifiers()) && names.contains(m.getName());
            Rig.same("a private method named " + m.getName() + " as a public one", clash ? 1 : 0, 0);
        }
        Set<String> fields = new TreeSet<>();
        for (Field f : SectorArchive.class.getDeclaredFields()) {
            if (!Modifier.isPrivate(f.getModifiers())) {
                fields.add(f.getName());
            }
        }
        Rig.same("the constants " + fields, fields.equals(new TreeSet<>(List.of("NONE", "DAMAGED", "FULL", "DOWN"))) ? 1 : 0, 1);
        Rig.same("NONE", SectorArchive.NONE, -1);
        Rig.same("DAMAGED", SectorArchive.DAMAGED, -2);
        Rig.same("FULL", SectorArchive.FULL, -4);
        Rig.same("DOWN", SectorArchive.DOWN, -9);
        Constructor<?>[] made = SectorArchive.class.getDeclaredConstructors();
        Rig.same("constructors", made.length, 1);
        Rig.same("a public constructor", Modifier.isPublic(made[0].getModifiers()) ? 1 : 0, 1);
        Rig.same("a final class", Modifier.isFinal(SectorArchive.class.getModifiers()) ? 1 : 0, 1);
        Rig.finish();
    }
}
