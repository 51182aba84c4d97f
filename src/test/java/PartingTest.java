/** Promises 41 to 44: VALUES, which TASKS are APART, THE PARTING. */
final class PartingTest {
    public static void main(String[] args) {
        wrongOnes();
        fewestChanged();
        fewestClasses();
        firstOfAlike();
        values();
        apart();
        remembered();
        seven();
        Check.end();
    }

    private static WageCourt with(int... values) {
        WageCourt x = new WageCourt();
        for (int i = 0; i < values.length; i++) {
            Check.due("value", x.value(i, values[i]), true);
        }
        return x;
    }

    /** Classes and their values of the TASKS 0 .. . */
    private static void parted(WageCourt x, int[] classes, int[] values) {
        for (int i = 0; i < classes.length; i++) {
            Check.due("class of task " + i, x.part(i, 0), classes[i]);
            Check.due("value of task " + i, x.part(i, 1), values[i]);
        }
    }

    private static void wrongOnes() {
        WageCourt x = new WageCourt();
        Check.due("value of task -1", x.value(-1, 0), false);
        Check.due("value of task 16", x.value(16, 0), false);
        Check.due("value -1", x.value(0, -1), false);
        Check.due("value 1000", x.value(0, 1000), false);
        Check.due("value 999", x.value(15, 999), true);
        Check.due("apart of -1", x.apart(-1, 0, true), false);
        Check.due("apart of 16", x.apart(0, 16, true), false);
        Check.due("apart of one", x.apart(3, 3, true), false);
        Check.due("apart of one, no more", x.apart(3, 3, false), false);
        Check.due("no more apart", x.apart(3, 4, false), true);
        Check.due("parting of none", x.parting(0, 1, 0), -1);
        Check.due("parting of eight", x.parting(255, 7, 999), -1);
        Check.due("parting of task 16", x.parting(65536, 1, 0), -1);
        Check.due("parting below 0", x.parting(-1, 1, 0), -1);
        Check.due("parting of least int", x.parting(Integer.MIN_VALUE, 1, 0), -1);
        Check.due("parting into 0", x.parting(1, 0, 0), -1);
        Check.due("parting into 8", x.parting(1, 8, 0), -1);
        Check.due("parting within -1", x.parting(1, 1, -1), -1);
        Check.due("parting within 1000", x.parting(1, 1, 1000), -1);
        Check.due("part of a task", x.part(0, 0), -1);
        Check.due("parting of one", x.parting(1 << 15, 1, 0), 0);
        Check.due("its class", x.part(15, 0), 0);
        Check.due("its value", x.part(15, 1), 999);
        Check.due("part, what 2", x.part(15, 2), -1);
        Check.due("part, what -1", x.part(15, -1), -1);
        Check.due("part of task 16", x.part(16, 0), -1);
        Check.due("part of task -1", x.part(-1, 0), -1);
        Check.due("part of a task that was not in it", x.part(14, 0), -1);
        Check.due("part of first values", new WageCourt().parting(3, 1, 0), 0);
    }

    private static void fewestChanged() {
        WageCourt x = with(10, 11, 12, 11);
        Check.due("into one", x.parting(15, 1, 1), 2);
        parted(x, new int[] {0, 0, 0, 0}, new int[] {11, 11, 11, 11});
        Check.due("into two", x.parting(15, 2, 1), 1);
        parted(x, new int[] {0, 0, 1, 0}, new int[] {11, 11, 12, 11});
        Check.due("into three", x.parting(15, 3, 1), 0);
        parted(x, new int[] {0, 1, 2, 1}, new int[] {10, 11, 12, 11});
        Check.due("into one within 0", x.parting(15, 1, 0), -2);
    }

    private static void fewestClasses() {
        WageCourt x = with(5, 5, 9, 5);
        Check.due("of four, two values", x.parting(15, 7, 0), 0);
        parted(x, new int[] {0, 0, 1, 0}, new int[] {5, 5, 9, 5});
        x = with(5, 5, 7, 9);
        Check.due("of four, three values", x.parting(15, 4, 999), 0);
        parted(x, new int[] {0, 0, 1, 2}, new int[] {5, 5, 7, 9});
        x = with(5, 5, 5, 5);
        x.apart(0, 2, true);
        x.apart(1, 3, true);
        x.apart(3, 2, true);
        Check.due("fewer classes in a later one", x.parting(15, 4, 0), 0);
        parted(x, new int[] {0, 1, 1, 0}, new int[] {5, 5, 5, 5});
    }

    private static void firstOfAlike() {
        WageCourt x = with(10, 20, 30);
        Check.due("three into two", x.parting(7, 2, 10), 1);
        parted(x, new int[] {0, 0, 1}, new int[] {10, 10, 30});
        x = with(10, 30, 20);
        Check.due("three into two", x.parting(7, 2, 10), 1);
        parted(x, new int[] {0, 1, 0}, new int[] {10, 30, 10});
        x = with(30, 10, 12);
        Check.due("three into two", x.parting(7, 2, 10), 1);
        parted(x, new int[] {0, 1, 1}, new int[] {30, 10, 10});
    }

    private static void values() {
        WageCourt x = with(10, 20, 20, 11);
        Check.due("the value that most have", x.parting(7, 1, 10), 1);
        parted(x, new int[] {0, 0, 0}, new int[] {20, 20, 20});
        Check.due("a value that none has", x.parting(7, 1, 6), 3);
        parted(x, new int[] {0, 0, 0}, new int[] {14, 14, 14});
        Check.due("none", x.parting(7, 1, 4), -2);
        x = with(3, 900, 903);
        Check.due("least value at 0", x.parting(1, 1, 999), 0);
        Check.due("a value in reach", x.parting(7, 1, 899), 2);
        parted(x, new int[] {0, 0, 0}, new int[] {900, 900, 900});
        Check.due("a value in reach", x.parting(7, 1, 900), 2);
        parted(x, new int[] {0, 0, 0}, new int[] {3, 3, 3});
        x = with(30, 29, 40);
        Check.due("the least of those that as many have", x.parting(7, 1, 12), 2);
        parted(x, new int[] {0, 0, 0}, new int[] {29, 29, 29});
        x = with(999, 0);
        Check.due("far ones", x.parting(3, 1, 999), 1);
        parted(x, new int[] {0, 0}, new int[] {0, 0});
        Check.due("far ones", x.parting(3, 1, 998), 2);
        parted(x, new int[] {0, 0}, new int[] {1, 1});
    }

    private static void apart() {
        WageCourt x = with(7, 7, 7);
        x.apart(2, 0, true);
        Check.due("apart", x.parting(7, 3, 0), 0);
        parted(x, new int[] {0, 0, 1}, new int[] {7, 7, 7});
        x.apart(0, 1, true);
        Check.due("apart from two", x.parting(7, 2, 0), 0);
        parted(x, new int[] {0, 1, 1}, new int[] {7, 7, 7});
        x.apart(1, 2, true);
        Check.due("all apart", x.parting(7, 2, 0), -2);
        Check.due("all apart", x.parting(7, 3, 0), 0);
        parted(x, new int[] {0, 1, 2}, new int[] {7, 7, 7});
        x.apart(0, 2, false);
        Check.due("no more apart", x.parting(7, 2, 0), 0);
        parted(x, new int[] {0, 1, 0}, new int[] {7, 7, 7});
    }

    private static void remembered() {
        WageCourt x = with(1, 2, 3);
        Check.due("parting", x.parting(5, 2, 0), 0);
        Check.due("not in it", x.part(1, 0), -1);
        Check.due("in it", x.part(2, 0), 1);
        Check.due("none can be", x.parting(7, 1, 0), -2);
        Check.due("wrong", x.parting(7, 0, 0), -1);
        Check.due("not in it still", x.part(1, 0), -1);
        Check.due("in it still", x.part(2, 0), 1);
        x.value(2, 50);
        Check.due("its value still", x.part(2, 1), 3);
        Check.due("parting", x.parting(2, 2, 0), 0);
        Check.due("in it now", x.part(1, 0), 0);
        Check.due("in it no more", x.part(2, 0), -1);
    }

    private static void seven() {
        WageCourt x = with(1, 2, 3, 4, 5, 6, 7);
        Check.due("seven into seven", x.parting(127, 7, 0), 0);
        parted(x, new int[] {0, 1, 2, 3, 4, 5, 6}, new int[] {1, 2, 3, 4, 5, 6, 7});
        Check.due("seven into three", x.parting(127, 3, 1), 4);
        parted(x, new int[] {0, 0, 0, 1, 1, 1, 2}, new int[] {2, 2, 2, 5, 5, 5, 7});
        Check.due("seven into two", x.parting(127, 2, 1), -2);
        Check.due("seven into one", x.parting(127, 1, 3), 6);
        Check.due("its value", x.part(6, 1), 4);
    }
}
