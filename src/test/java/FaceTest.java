/** Wrong inputs of every call: which exception, and which of several. */
public final class FaceTest {
    public static void main(String[] args) {
        Check c = new Check("FaceTest");
        c.due("NONE", -1, AgreedStore.NONE);
        c.finish();
    }
}
