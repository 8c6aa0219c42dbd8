/** The calls that README.md shows, with the answers that it tells. */
public final class ReadmeTest extends Checks {
    public static void main(String[] args) {
        promise = "README.md";
        TunerRounds x = new TunerRounds();
        is("feed", 20, () -> x.feed(0x63616b65, 0x20373b20, 0x20202020, 0x20202020, 0x20202020));
        is("house of a LINE", 1, x::house);
        put(x, "piano a home 3 4 20 50 500 1;tuner t 0 0 fork 2;");
        is("house", 2, x::house);
        put(x, "tuned a t on 10 0 4;");
        is("records", 1, x::records);
        is("offset", 1, () -> x.offset(0, 0, 15, -1));
        is("due", 33, () -> x.due(0, 10, TunerRounds.NONE, 0));
        put(x, "\0");
        is("round", 10, () -> x.round(0, 40));
        is("roundAt", 0, () -> x.roundAt(0));
        is("home", 610, x::home);
        finish("ReadmeTest");
    }
}
