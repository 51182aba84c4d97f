import java.util.Arrays;

/** Boundary cases of PARTS and THE PARTING (Terms, V), and of promises 41 to 44. */
final class EdgePartsTest {
    private static final int LEAST = Integer.MIN_VALUE;
    private static final int MOST = Integer.MAX_VALUE;

    public static void main(String[] args) {
        values();
        valuesRefused();
        sets();
        classesAtMost();
        within();
        apartAreInTwo();
        apartRefused();
        fewestOthers();
        fewestClasses();
        firstOfAlike();
        valueOfAClass();
        partingAnswers();
        partingRefused();
        noneCanBe();
        parts();
        partOfNoSuchOnes();
        allSmallOnes();
        Check.end();
    }

    private static WageCourt with(int... values) {
        WageCourt x = new WageCourt();
        for (int task = 0; task < values.length; task++) {
            Check.due("value", x.value(task, values[task]), true);
        }
        return x;
    }

    /** The classes of the TASKS 0 .., and their values. */
    private static void parted(WageCourt x, int[] classes, int... values) {
        for (int task = 0; task < classes.length; task++) {
            Check.due("class of task " + task, x.part(task, 0), classes[task]);
            Check.due("value of task " + task, x.part(task, 1), classes[task] < 0 ? -1 : values[classes[task]]);
        }
    }

    private static int[] classes(int... of) {
        return of;
    }

    private static void values() {
        Check.holds("Promise 41", "VALUE of a TASK becomes v (0 .. 999; 0 at first): true;");
        WageCourt x = new WageCourt();
        for (int task = 0; task < 16; task++) {
            Check.due("parting at first", x.parting(1 << task, 1, 0), 0);
            Check.due("value of task " + task + " at first", x.part(task, 1), 0);
            int[] right = {0, 1, 998, 999, task};
            for (int v : right) {
                Check.due("value " + v + " of task " + task, x.value(task, v), true);
                Check.due("parting", x.parting(1 << task, 1, 0), 0);
                Check.due("value of task " + task, x.part(task, 1), v);
            }
        }
        for (int task = 0; task < 16; task++) {
            x.parting(1 << task, 1, 0);
            Check.due("value of task " + task + " still", x.part(task, 1), task);
        }
    }

    private static void someTold(WageCourt x) {
        for (int task = 0; task < 16; task++) {
            x.value(task, 10 * task);
        }
        x.apart(0, 1, true);
        x.apart(3, 15, true);
        x.parting(0x8003, 3, 5);
    }

    private static void valuesRefused() {
        Check.holds("Promise 41", "false for others.");
        int[][] wrong = {{-1, 5}, {16, 5}, {17, 5}, {LEAST, 5}, {MOST, 5}, {0, -1}, {0, 1000}, {15, LEAST}, {15, MOST}};
        for (int[] w : wrong) {
            Twins.refused("value" + Arrays.toString(w), EdgePartsTest::someTold, false, c -> Twins.bit(c.value(w[0], w[1])));
        }
    }

    private static void sets() {
        Check.holds("Terms", "PARTS: TASKS of a set (1 .. 7 of them), each with a told VALUE (0 .. 999),");
        WageCourt x = new WageCourt();
        someTold(x);
        int[] fit = {1, 2, 1 << 15, 3, 0x7f, 0xfe00, 0x5555 & 0x1fff, 0xc07c};
        for (int set : fit) {
            Check.due("parting of " + Integer.toBinaryString(set), x.parting(set, 7, 0), 0);
            int next = 0;
            for (int task = 0; task < 16; task++) {
                boolean in = (set >> task & 1) == 1;
                Check.due("class of task " + task, x.part(task, 0), in ? next : -1);
                Check.due("value of task " + task, x.part(task, 1), in ? 10 * task : -1);
                next += in ? 1 : 0;
            }
        }
        int[] wrong = {0, 0xff, 0xff00, 0xffff, 0x10000, 0x10001, -1, LEAST, MOST, 0x5555};
        for (int set : wrong) {
            Check.due("parting of " + Integer.toBinaryString(set), x.parting(set, 7, 0), -1);
        }
        WageCourt y = with(0, 999);
        Check.due("parting of the least and the greatest value", y.parting(3, 2, 0), 0);
        parted(y, classes(0, 1), 0, 999);
    }

    private static void classesAtMost() {
        Check.holds("Terms", "into K (1 .. 7) classes at most, each with one value:");
        WageCourt x = with(1, 2, 3, 4, 5, 6, 7);
        for (int k = 1; k <= 7; k++) {
            Check.due("seven into " + k, x.parting(0x7f, k, 999), 7 - k);
            int used = 0;
            for (int task = 0; task < 7; task++) {
                used = Math.max(used, x.part(task, 0) + 1);
            }
            Check.due("classes of seven into " + k, used, k);
        }
        Check.due("seven into 0", x.parting(0x7f, 0, 999), -1);
        Check.due("seven into 8", x.parting(0x7f, 8, 999), -1);
        Check.due("one into 7", x.parting(1, 7, 999), 0);
        parted(x, classes(0, -1), 1);
        for (int k = 1; k <= 7; k++) {
            Check.due("seven within 0 into " + k, x.parting(0x7f, k, 0), k < 7 ? -2 : 0);
        }
    }

    private static void within() {
        Check.holds("Terms", "each TASK's class value (0 .. 9999) is at most D from its own;");
        WageCourt x = with(10, 20);
        int[] due = {-2, -2, 2, 2, 2, 2, 2, 1, 1};
        int[] ds = {0, 4, 5, 6, 7, 8, 9, 10, 11};
        int[] value = {0, 0, 15, 14, 13, 12, 11, 10, 10};
        for (int i = 0; i < ds.length; i++) {
            Check.due("10 and 20 into 1 within " + ds[i], x.parting(3, 1, ds[i]), due[i]);
            if (due[i] >= 0) {
                parted(x, classes(0, 0, -1), value[i]);
            }
        }
        WageCourt y = with(0, 999, 1, 500);
        Check.due("0 and 999 within 499", y.parting(3, 1, 499), -2);
        Check.due("0 and 999 within 500", y.parting(3, 1, 500), 2);
        parted(y, classes(0, 0), 499);
        Check.due("0 and 999 within 998", y.parting(3, 1, 998), 2);
        parted(y, classes(0, 0), 1);
        Check.due("0 and 999 within 999", y.parting(3, 1, 999), 1);
        parted(y, classes(0, 0), 0);
        Check.due("0 and 1 within 1, none below 0", y.parting(5, 1, 1), 1);
        parted(y, classes(0, -1, 0), 0);
        Check.due("0 and 1 within 0", y.parting(5, 1, 0), -2);
        Check.due("0 and 1 within 0 into 2", y.parting(5, 2, 0), 0);
        Check.due("within -1", y.parting(5, 2, -1), -1);
        Check.due("within 1000", y.parting(5, 2, 1000), -1);
        WageCourt z = with(999, 998);
        Check.due("998 and 999 within 1", z.parting(3, 1, 1), 1);
        parted(z, classes(0, 0), 998);
    }

    private static void apartAreInTwo() {
        Check.holds("Terms", "two TASKS that are told APART are in two.");
        Check.holds("Promise 42", "Two TASKS are APART, or no more: true;");
        WageCourt x = with(5, 5, 5);
        Check.due("none apart", x.parting(7, 3, 0), 0);
        parted(x, classes(0, 0, 0), 5);
        Check.due("apart", x.apart(0, 1, true), true);
        Check.due("two apart", x.parting(7, 3, 0), 0);
        parted(x, classes(0, 1, 0), 5, 5);
        Check.due("two apart into 1", x.parting(7, 1, 0), -2);
        Check.due("apart again, the other way", x.apart(1, 0, true), true);
        Check.due("apart no more, once", x.apart(0, 1, false), true);
        Check.due("none apart", x.parting(7, 1, 0), 0);
        Check.due("apart", x.apart(2, 1, true), true);
        Check.due("two apart", x.parting(7, 3, 0), 0);
        parted(x, classes(0, 0, 1), 5, 5);
        Check.due("apart of others no more", x.apart(0, 1, false), true);
        Check.due("two apart still", x.parting(7, 1, 0), -2);
        Check.due("apart no more, the other way", x.apart(1, 2, false), true);
        Check.due("none apart", x.parting(7, 1, 0), 0);
        Check.due("apart of the last task and the first", x.apart(15, 0, true), true);
        x.value(15, 5);
        Check.due("the last and the first", x.parting(0x8001, 1, 0), -2);
        Check.due("the last and the first into 2", x.parting(0x8001, 2, 0), 0);
        Check.due("class of the last", x.part(15, 0), 1);
        Check.due("the last and the second", x.parting(0x8002, 1, 0), 0);
        WageCourt y = with(1, 1, 1, 1, 1, 1, 1);
        for (int one = 0; one < 7; one++) {
            for (int other = 0; other < one; other++) {
                y.apart(one, other, true);
            }
        }
        Check.due("all seven apart into 6", y.parting(0x7f, 6, 999), -2);
        Check.due("all seven apart into 7", y.parting(0x7f, 7, 0), 0);
        parted(y, classes(0, 1, 2, 3, 4, 5, 6), 1, 1, 1, 1, 1, 1, 1);
    }

    private static void apartRefused() {
        Check.holds("Promise 42", "false: no such ones, one and the same.");
        int[][] wrong = {{-1, 0}, {0, -1}, {16, 0}, {0, 16}, {LEAST, 0}, {0, LEAST}, {MOST, 0}, {0, MOST}, {0, 0}, {7, 7},
            {15, 15}, {16, 16}, {-1, -1}, {32, 1}};
        for (int[] w : wrong) {
            for (int is = 0; is < 2; is++) {
                boolean value = is == 1;
                Twins.refused("apart" + Arrays.toString(w) + " " + value, EdgePartsTest::someTold, false,
                        c -> Twins.bit(c.apart(w[0], w[1], value)));
            }
        }
    }

    private static void fewestOthers() {
        Check.holds("Terms", "THE PARTING: of all that can be the one in which the fewest TASKS have another value than their"
                + " own;");
        WageCourt x = with(1, 2, 2, 2);
        Check.due("one other of four, rather than two classes alike", x.parting(15, 1, 1), 1);
        parted(x, classes(0, 0, 0, 0), 2);
        Check.due("none other in two classes", x.parting(15, 2, 1), 0);
        parted(x, classes(0, 1, 1, 1), 1, 2);
        WageCourt y = with(1, 1, 2, 2, 3);
        Check.due("one other in two classes", y.parting(31, 2, 1), 1);
        parted(y, classes(0, 0, 1, 1, 1), 1, 2);
        Check.due("none other in three", y.parting(31, 3, 1), 0);
        Check.due("three others in one", y.parting(31, 1, 1), 3);
        parted(y, classes(0, 0, 0, 0, 0), 2);
    }

    private static void fewestClasses() {
        Check.holds("Terms", "of these the fewest classes;");
        WageCourt x = with(4, 4, 4, 4, 4, 4, 4);
        for (int k = 1; k <= 7; k++) {
            Check.due("seven alike into " + k, x.parting(0x7f, k, 999), 0);
            parted(x, classes(0, 0, 0, 0, 0, 0, 0), 4);
        }
        x.apart(0, 6, true);
        x.apart(5, 6, true);
        x.apart(0, 5, true);
        Check.due("three of them apart", x.parting(0x7f, 7, 0), 0);
        parted(x, classes(0, 0, 0, 0, 0, 1, 2), 4, 4, 4);
        WageCourt y = with(4, 4, 4, 4);
        y.apart(0, 1, true);
        y.apart(0, 2, true);
        y.apart(1, 3, true);
        Check.due("two classes that are the first that can be", y.parting(15, 4, 0), 0);
        parted(y, classes(0, 1, 1, 0), 4, 4);
        WageCourt z = with(4, 4, 4, 4);
        z.apart(0, 2, true);
        z.apart(1, 3, true);
        z.apart(2, 3, true);
        Check.due("two classes, though three are ahead by their numbers", z.parting(15, 4, 0), 0);
        parted(z, classes(0, 1, 1, 0), 4, 4);
        z.apart(1, 2, true);
        Check.due("three classes, where two cannot be", z.parting(15, 4, 0), 0);
        parted(z, classes(0, 0, 1, 2), 4, 4, 4);
    }

    private static void firstOfAlike() {
        Check.holds("Terms", "of these the first: class numbers by TASKS (the least TASK's class is 0, each new one the next"
                + " number), the least first TASK by TASK.");
        WageCourt x = with(10, 11, 12);
        Check.due("the middle one to the first", x.parting(7, 2, 1), 1);
        parted(x, classes(0, 0, 1), 10, 12);
        WageCourt y = with(12, 11, 10);
        Check.due("the middle one to the first, the other way", y.parting(7, 2, 1), 1);
        parted(y, classes(0, 0, 1), 11, 10);
        WageCourt z = with(10, 12, 11);
        Check.due("the last one to the first", z.parting(7, 2, 1), 1);
        parted(z, classes(0, 1, 0), 10, 12);
        WageCourt v = with(1, 1, 1, 1);
        v.apart(0, 1, true);
        Check.due("the first that can be", v.parting(15, 2, 0), 0);
        parted(v, classes(0, 1, 0, 0), 1, 1);
        WageCourt w = new WageCourt();
        w.value(3, 9);
        w.value(9, 7);
        w.value(15, 9);
        Check.due("numbers by tasks that are not the first ones", w.parting(0x8208, 7, 0), 0);
        Check.due("class of task 3", w.part(3, 0), 0);
        Check.due("class of task 9", w.part(9, 0), 1);
        Check.due("class of task 15", w.part(15, 0), 0);
    }

    private static void valueOfAClass() {
        Check.holds("Terms", "A class's value: that which most of its TASKS have among those that can be; then the least.");
        WageCourt x = with(10, 20, 20, 30);
        Check.due("most have 20", x.parting(15, 1, 10), 2);
        parted(x, classes(0, 0, 0, 0), 20);
        WageCourt y = with(30, 10, 20);
        Check.due("each has one, all can be", y.parting(7, 1, 20), 2);
        parted(y, classes(0, 0, 0), 10);
        Check.due("each has one, two of them cannot be", y.parting(7, 1, 10), 2);
        parted(y, classes(0, 0, 0), 20);
        Check.due("each has one, two of them cannot be", y.parting(7, 1, 19), 2);
        parted(y, classes(0, 0, 0), 20);
        WageCourt z = with(10, 10, 10, 40, 41, 41);
        Check.due("most have 10, which cannot be", z.parting(63, 1, 20), 6);
        parted(z, classes(0, 0, 0, 0, 0, 0), 21);
        Check.due("none has what can be", z.parting(63, 1, 29), 6);
        parted(z, classes(0, 0, 0, 0, 0, 0), 12);
        Check.due("most have 10, which just cannot be, and one 40", z.parting(63, 1, 30), 5);
        parted(z, classes(0, 0, 0, 0, 0, 0), 40);
        Check.due("most have 10, which just can be", z.parting(63, 1, 31), 3);
        parted(z, classes(0, 0, 0, 0, 0, 0), 10);
        WageCourt v = with(5, 9, 9, 5, 7);
        Check.due("two have the least, two the greatest", v.parting(31, 1, 4), 3);
        parted(v, classes(0, 0, 0, 0, 0), 5);
        Check.due("neither can be", v.parting(31, 1, 3), 4);
        parted(v, classes(0, 0, 0, 0, 0), 7);
        Check.due("none has what can be", v.parting(15, 1, 3), 4);
        parted(v, classes(0, 0, 0, 0), 6);
    }

    private static void partingAnswers() {
        Check.holds("Promise 43", "THE PARTING of a set of TASKS (bits) into k classes at most, within d (0 .. 999), is"
                + " remembered: how many TASKS have another value than their own.");
        WageCourt x = with(1, 2, 3, 4, 5, 6, 7);
        int[] due = {4, 3, 2, 1, 0};
        for (int k = 3; k <= 7; k++) {
            Check.due("parting into " + k, x.parting(0x7f, k, 1), due[k - 3]);
        }
        Check.due("parting within 3", x.parting(0x7f, 1, 3), 6);
        parted(x, classes(0, 0, 0, 0, 0, 0, 0), 4);
        Check.due("parting of other tasks, where all is 0", x.parting(0x3f80, 1, 0), 0);
        parted(x, classes(-1, -1, -1, -1, -1, -1, -1, 0, 0, 0, 0, 0, 0, 0, -1, -1), 0);
    }

    private static void partingRefused() {
        Check.holds("Promise 43", "NONE: no such ones.");
        int[][] wrong = {{0, 1, 0}, {0xff, 7, 999}, {0x10000, 7, 0}, {0x10001, 7, 0}, {-1, 7, 0}, {LEAST, 1, 0}, {MOST, 7, 0},
            {3, 0, 0}, {3, 8, 0}, {3, -1, 0}, {3, LEAST, 0}, {3, MOST, 0}, {3, 2, -1}, {3, 2, 1000}, {3, 2, LEAST},
            {3, 2, MOST}};
        for (int[] w : wrong) {
            Twins.refused("parting" + Arrays.toString(w), EdgePartsTest::someTold, -1, c -> c.parting(w[0], w[1], w[2]));
        }
    }

    private static void noneCanBe() {
        Check.holds("Promise 43", "-2: none can be;");
        Check.holds("Promise 43", "In both nothing changes.");
        int[][] none = {{3, 1, 999}, {6, 1, 4}, {0x7f, 3, 4}, {0x8008, 1, 999}};
        for (int[] w : none) {
            Twins.refused("parting" + Arrays.toString(w), EdgePartsTest::someTold, -2, c -> c.parting(w[0], w[1], w[2]));
        }
        WageCourt x = with(1, 9);
        Check.due("none can be, and none was", x.parting(3, 1, 3), -2);
        Check.due("part", x.part(0, 0), -1);
        Check.due("one", x.parting(2, 1, 0), 0);
        Check.due("none can be", x.parting(3, 1, 3), -2);
        parted(x, classes(-1, 0), 9);
        Check.due("one can be", x.parting(3, 1, 4), 2);
        parted(x, classes(0, 0), 5);
    }

    private static void parts() {
        Check.holds("Promise 44", "Of a TASK in the latest parting(): what 0 its class, 1 the class's value.");
        WageCourt x = new WageCourt();
        someTold(x);
        Check.due("parting", x.parting(0x8101, 2, 75), 1);
        int[] tasks = {0, 8, 15};
        int[] due = {0, 1, 1};
        int[] values = {0, 80, 80};
        for (int i = 0; i < 3; i++) {
            Check.due("class of task " + tasks[i], x.part(tasks[i], 0), due[i]);
            Check.due("value of task " + tasks[i], x.part(tasks[i], 1), values[i]);
        }
        x.value(8, 500);
        x.apart(8, 15, true);
        Check.due("value that was remembered", x.part(8, 1), 80);
        Check.due("class that was remembered", x.part(15, 0), 1);
        x.parting(0x0002, 1, 0);
        Check.due("a task that was in the one ahead", x.part(8, 0), -1);
        Check.due("a task of the latest", x.part(1, 1), 10);
    }

    private static void partOfNoSuchOnes() {
        Check.holds("Promise 44", "NONE: it was not in it, no such ones.");
        WageCourt x = new WageCourt();
        someTold(x);
        Check.due("parting", x.parting(0x8003, 3, 0), 0);
        int[] tasks = {-1, 16, 17, LEAST, MOST, 2, 14};
        for (int task : tasks) {
            Check.due("part of task " + task, x.part(task, 0), -1);
            Check.due("part of task " + task, x.part(task, 1), -1);
        }
        int[] others = {-1, 2, 3, LEAST, MOST};
        for (int what : others) {
            Check.due("part, what " + what, x.part(0, what), -1);
        }
        Check.due("part", x.part(15, 0), 2);
        Check.due("part without any", new WageCourt().part(0, 0), -1);
    }

    /** All sets of four values 0 .. 3, all k, d up to 2, some apart: as the oracle, which tries each value. */
    private static void allSmallOnes() {
        for (int code = 0; code < 256; code++) {
            WageCourt x = new WageCourt();
            Oracle o = new Oracle();
            for (int task = 0; task < 4; task++) {
                x.value(task, code >> 2 * task & 3);
                o.value(task, code >> 2 * task & 3);
            }
            for (int pair = 0; pair < 3; pair++) {
                for (int k = 1; k < 5; k++) {
                    for (int d = 0; d < 3; d++) {
                        String what = "parting of " + code + " into " + k + " within " + d + ", apart " + pair;
                        Check.due(what, x.parting(15, k, d), o.parting(15, k, d));
                        for (int task = 0; task < 4; task++) {
                            Check.due("class in the " + what, x.part(task, 0), o.part(task, 0));
                            Check.due("value in the " + what, x.part(task, 1), o.part(task, 1));
                        }
                    }
                }
                x.apart(pair, 3 - pair / 2, true);
                o.apart(pair, 3 - pair / 2, true);
            }
        }
    }
}
