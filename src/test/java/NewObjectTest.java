public final class NewObjectTest {
    public static void main(String[] args) {
        SliceCoder x = new SliceCoder();
        if (x.count(0, 0) != 0) System.exit(1);
    }
}
