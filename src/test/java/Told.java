/** Objects with a text told and laid, for the tests of edges. */
final class Told {
    private Told() { }

    static void tell(StationPasses x, String text) {
        x.wipe();
        write(x, text);
    }

    static void write(StationPasses x, String text) {
        for (int i = 0; i < text.length(); i++) {
            x.write(text.charAt(i));
        }
    }

    static StationPasses told(String text) {
        StationPasses x = new StationPasses();
        write(x, text);
        return x;
    }

    static StationPasses laid(String text) {
        StationPasses x = told(text);
        if (x.lay() < 0) {
            throw new IllegalStateException("a test lays a text with a fault: " + text);
        }
        return x;
    }
}
