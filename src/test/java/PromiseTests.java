public final class PromiseTests {
    public static void main(String[] args) {
        if (RoundColumns.NONE != -1) {
            System.exit(1);
        }
    }
}
