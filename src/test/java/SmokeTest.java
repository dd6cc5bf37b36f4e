public final class SmokeTest {
    public static void main(String[] args) {
        if (new CinemaChain().size(0) != 0) {
            System.exit(1);
        }
    }
}
