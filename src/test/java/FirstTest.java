public final class FirstTest {
    public static void main(String[] args) {
        if (new WinnerDraws().told(3) != 20) System.exit(1);
    }
}
