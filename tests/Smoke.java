public final class Smoke {
    public static void main(String[] args) {
        if (new RowRules().count(3) != 1) System.exit(1);
    }
}
