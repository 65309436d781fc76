/** Promises 13 to 15: image, patch, cut. */
public final class BytesTest {
    private BytesTest() {
    }

    public static void main(String[] args) {
        image();
        patch();
        patchWithSum();
        wrongPatches();
        cut();
        Checks.finish("BytesTest");
    }

    private static void image() {
        SnapForge x = Ops.started(Ops.op(Ops.NOP));
        Checks.outside("a new one is empty", () -> x.image(0));
        Checks.same("how many", x.snapshot(), x.image(-1));
        int size = x.image(-1);
        Checks.same("the first", x.image(0), 83);
        int sum = 0;
        for (int k = 0; k < size - 1; k++) {
            sum += x.image(k);
        }
        Checks.same("the last is the sum", x.image(size - 1), sum & 255);
        Checks.outside("behind", () -> x.image(size));
        Checks.outside("-2", () -> x.image(-2));
        x.run(1);
        x.start(0, 0, 0);
        Checks.same("it stays till the next", x.image(-1), size);
    }

    private static void patch() {
        SnapForge x = new SnapForge();
        Checks.same("the first comes behind", x.patch(0, 7, true), -1);
        Checks.same("how many", x.image(-1), 1);
        Checks.same("it is there", x.image(0), 7);
        Checks.same("what it was", x.patch(0, 255, false), 7);
        Checks.same("it is changed", x.image(0), 255);
        Checks.same("one more", x.patch(1, 0, false), -1);
        Checks.same("how many", x.image(-1), 2);
        Checks.same("the lowest", x.patch(0, 0, false), 255);
        Checks.same("the other stays", x.image(1), 0);
    }

    private static void patchWithSum() {
        SnapForge x = new SnapForge();
        for (int b : new int[] {10, 20, 250}) {
            x.patch(x.image(-1), b, true);
        }
        Checks.same("no sum for those that come behind", x.image(1), 20);
        Checks.same("ten more", x.patch(0, 20, true), 10);
        Checks.same("the last is ten more, in 8 bits", x.image(2), 4);
        Checks.same("fifteen less", x.patch(1, 5, true), 20);
        Checks.same("the last is fifteen less, in 8 bits", x.image(2), 245);
        Checks.same("the same again", x.patch(1, 5, true), 5);
        Checks.same("the last stays", x.image(2), 245);
        Checks.same("the last itself", x.patch(2, 9, true), 245);
        Checks.same("becomes that", x.image(2), 9);
        Checks.same("without sum", x.patch(0, 200, false), 20);
        Checks.same("the last stays, too", x.image(2), 9);
    }

    private static void wrongPatches() {
        SnapForge x = new SnapForge();
        x.patch(0, 1, false);
        Checks.bad("256", () -> x.patch(0, 256, false));
        Checks.bad("-1", () -> x.patch(0, -1, true));
        Checks.bad("a wrong byte comes first", () -> x.patch(-1, 256, true));
        Checks.outside("place -1", () -> x.patch(-1, 0, true));
        Checks.outside("place 2", () -> x.patch(2, 0, false));
        Checks.same("nothing changed", x.image(0), 1);
        Checks.same("nothing came", x.image(-1), 1);
    }

    private static void cut() {
        SnapForge x = new SnapForge();
        Checks.same("nothing of nothing", x.cut(0), 0);
        Checks.bad("more than there is", () -> x.cut(1));
        for (int k = 0; k < 5; k++) {
            x.patch(k, k, false);
        }
        Checks.bad("-1", () -> x.cut(-1));
        Checks.bad("6 of 5", () -> x.cut(6));
        Checks.same("all stay", x.cut(5), 0);
        Checks.same("two go", x.cut(3), 2);
        Checks.same("three stay", x.image(-1), 3);
        Checks.same("the last of them", x.image(2), 2);
        Checks.outside("it went", () -> x.image(3));
        Checks.same("one comes behind", x.patch(3, 77, true), -1);
        Checks.same("all go", x.cut(0), 4);
    }
}
