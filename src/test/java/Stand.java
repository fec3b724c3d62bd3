/** Everything that can be told of an object, as a text: to see that nothing of it is another one. Uses the object up. */
final class Stand {
    private Stand() {
    }

    static String of(WanderingMoons sky) {
        return "error " + sky.errorPosition() + ", buffer " + sky.append(0, 0, 0, 0, 0) + ", " + behindTheBuffer(sky, true);
    }

    /** All but the text buffer and the position of the error. */
    static String ofSky(WanderingMoons sky) {
        return behindTheBuffer(sky, false);
    }

    private static String behindTheBuffer(WanderingMoons sky, boolean withBuffer) {
        StringBuilder all = new StringBuilder("written \"" + writtenBefore(sky) + "\"\n");
        all.append("present ").append(Skies.picture(sky)).append(names(sky)).append('\n');
        undone(sky, all);
        for (int slot = 0; slot < 2; slot++) {
            String moons = Calls.answer(sky, "restore " + slot);
            all.append("saved ").append(moons).append(": ").append(fewCalls(sky)).append('\n');
        }
        if (withBuffer) {
            all.append("buffer ").append(sky.read()).append(' ').append(sky.errorPosition()).append(": ").append(fewCalls(sky));
        }
        return all.toString();
    }

    private static String writtenBefore(WanderingMoons sky) {
        StringBuilder text = new StringBuilder();
        for (int k = 0; k < 450; k++) {
            String one = Calls.answer(sky, "writtenByte " + k);
            if (one.startsWith("throws")) {
                return text.toString();
            }
            text.append((char) Integer.parseInt(one));
        }
        return text.toString();
    }

    private static String names(WanderingMoons sky) {
        return Skies.written(sky, sky.writeTable(1, 3));
    }

    /** All the way back. */
    private static void undone(WanderingMoons sky, StringBuilder all) {
        for (int k = 0; k < 9; k++) {
            String left = Calls.answer(sky, "undo");
            all.append("undone ").append(left);
            if (left.startsWith("throws")) {
                all.append('\n');
                return;
            }
            all.append(shortly(sky)).append('\n');
        }
    }

    /** What an object answers after 512 calls is free, so many sights are not told one by one again. */
    private static String fewCalls(WanderingMoons sky) {
        return sky.count(4) < 10 ? Skies.picture(sky) : shortly(sky);
    }

    /** A number of each kind that a change can change. */
    static String shortly(WanderingMoons sky) {
        StringBuilder few = new StringBuilder();
        for (int what = 0; what < 5; what++) {
            few.append(' ').append(sky.count(what));
        }
        String[] more = {"moon 0 0", "moon 0 4", "moon 1 3", "moon 1 5", "sight 0 2", "sight 1 0"};
        for (String call : more) {
            few.append(' ').append(Calls.answer(sky, call).replace("throws.IndexOutOfBoundsException", "-"));
        }
        return few.toString();
    }
}
