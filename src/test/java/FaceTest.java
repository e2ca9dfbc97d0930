public final class FaceTest {
    public static void main(String[] args) { new Leastreader(); }
}
