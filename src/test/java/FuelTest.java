/** Promise 7: the fuel that the latest run left; 0 ahead of any. */
final class FuelTest {
    private FuelTest() {
    }

    private static void leaves(RowCode x, int fuel, int answer, int left) {
        Due.same("run(" + fuel + ")", x.run(fuel), answer);
        Due.same("fuel() behind run(" + fuel + ")", x.fuel(), left);
    }

    public static void main(String[] args) {
        RowCode x = new RowCode();
        Due.same("fuel() ahead of any run", x.fuel(), 0);
        leaves(x, 50, -1, 0);
        Due.addAll(x, 15, 3, 15, -8, 1, 0, 16, 0);
        Due.same("fuel() ahead of a run", x.fuel(), 0);
        leaves(x, 50, 0, 48);
        leaves(x, 20001, -1, 48);
        leaves(x, 2, 0, 0);
        leaves(x, 1, 1, 0);
        leaves(x, 0, 1, 0);
        leaves(x, 20000, 0, 19998);
        x.clear();
        Due.same("fuel() behind clear", x.fuel(), 19998);

        leaves(Due.code(17, 0), 7, 4, 7);
        leaves(Due.code(15, 0, 17, 0), 7, 4, 6);
        leaves(Due.code(15, 0, 0, 64, 3, 0, 16, 0), 7, 2, 6);
        leaves(Due.code(15, 0, 0, 1, 0, 0, 7, 3, 16, 0), 7, 3, 6);
        leaves(Due.code(13, 0, 15, 0, 10, 0), 20000, 1, 0);

        // As many as the way that is gone has.
        RowCode y = Due.code(1, 0, 11, 0, 15, 0, 15, 0, 13, 0, 15, 0, 17, 0);
        leaves(y, 10, 4, 9);
        y.set(0, 1);
        leaves(y, 10, 4, 7);
        leaves(y, 3, 4, 0);
        leaves(y, 2, 1, 0);
        Due.finish();
    }
}
