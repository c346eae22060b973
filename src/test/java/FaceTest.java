import java.lang.reflect.Constructor;
import java.lang.reflect.Field;
import java.lang.reflect.Method;
import java.lang.reflect.Modifier;
import java.util.Set;
import java.util.TreeSet;

/** The public face, the constants, and promise 1: a new object. */
public final class FaceTest {
    private static final String[] FACE = {
        "feed(int)", "end(int)", "text()", "fault()", "rule(int)", "level(int)", "segment(int,int)",
        "item(int,int)", "plain(int)", "whole()", "player(int)", "turns(int)", "tick(int)", "out(int)",
        "marked(int,int)", "page(int,int)", "trigger(int)", "set(int,int)", "again()", "draw(int,int)",
        "keep(int)", "back(int)", "sheet(int,int,int)", "lay(int,int,int)", "run(int,int,int,int)",
        "torn()", "count(int)"};

    public static void main(String[] args) {
        Check check = new Check();
        face(check);
        constants(check);
        newObject(check);
        check.finish();
    }

    private static void face(Check check) {
        Set<String> want = new TreeSet<>(Set.of(FACE));
        Set<String> names = new TreeSet<>();
        for (String name : FACE) {
            names.add(name.substring(0, name.indexOf('(')));
        }
        Set<String> got = new TreeSet<>();
        for (Method m : PooledWaves.class.getDeclaredMethods()) {
            if (Modifier.isPrivate(m.getModifiers())) {
                check.due("a private method named " + m.getName(), names.contains(m.getName()) ? 1 : 0, 0);
                continue;
            }
            check.due(m + " answers an int", m.getReturnType() == int.class ? 1 : 0, 1);
            check.due(m + " is public", Modifier.isPublic(m.getModifiers()) ? 1 : 0, 1);
            String full = m.toString();
            got.add(full.substring(full.indexOf('.') + 1));
        }
        check.due("the face is " + got, got.equals(want) ? 1 : 0, 1);
        check.due("the class is public and final", PooledWaves.class.getModifiers(),
            Modifier.PUBLIC | Modifier.FINAL);
        Constructor<?>[] made = PooledWaves.class.getDeclaredConstructors();
        check.due("constructors", made.length, 1);
        check.due("its parameters", made[0].getParameterCount(), 0);
    }

    private static void constants(Check check) {
        check.due("BAD", PooledWaves.BAD, -1);
        check.due("STATE", PooledWaves.STATE, -2);
        check.due("FULL", PooledWaves.FULL, -3);
        check.due("NONE", PooledWaves.NONE, -4);
        int visible = 0;
        for (Field f : PooledWaves.class.getDeclaredFields()) {
            visible += Modifier.isPrivate(f.getModifiers()) ? 0 : 1;
        }
        check.due("visible fields", visible, 4);
    }

    private static void newObject(Check check) {
        PooledWaves x = new PooledWaves();
        int[] rules = {0, 0, 0, 0, 0, 0, 16, 0, 3, 1, 4};
        for (int what = 0; what < rules.length; what++) {
            check.due("new rule " + what, x.rule(what), rules[what]);
        }
        int[] player = {-4, 0, 0, 0, 0, 0, 0, 0, 0, 0};
        for (int what = 0; what < player.length; what++) {
            check.due("new player " + what, x.player(what), player[what]);
        }
        check.due("new fault", x.fault(), 0);
        check.due("new torn", x.torn(), 0);
        check.due("new whole", x.whole(), 0);
        check.due("new plain", x.plain(0), -4);
        check.due("new images", x.count(0), 0);
        check.due("new tape", x.count(1), 0);
        check.due("new again", x.again(), -4);
        check.due("new level", x.level(0), -4);
        check.due("new segment", x.segment(0, 0), -1);
        check.due("new item", x.item(0, 0), -1);
        check.due("new turns", x.turns(0), -1);
        check.due("new out", x.out(0), -4);
        check.due("new marked", x.marked(0, 0), -4);
        check.due("new page", x.page(0, 0), -4);
        check.due("new tick", x.tick(3), 0);
        check.due("the clock goes on", x.player(2), 3);
        check.due("nothing came out", x.player(4), 0);
        check.due("sheet 0", x.count(2), -4);
        for (int k = 0; k < 4; k++) {
            check.due("sheet " + k + " is nothing", x.lay(k, 0, 0), -11);
        }
    }
}
