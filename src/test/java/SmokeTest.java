public final class SmokeTest {
    public static void main(String[] args) {
        if (new TruthFilters().count(0) != 0) {
            System.exit(1);
        }
    }
}
