import java.util.function.IntSupplier;

/** Counts and prints the answers that are not the ones that are due. */
final class Due {
    private final Document document = new Document();
    private String about = "";
    private int wrong;

    /** Names the sentence of the document, below which heading it stands, that comes next to test. */
    void sentence(String heading, String words) {
        about = heading + ", \"" + words + "\": ";
        if (!document.says(heading, words)) {
            tell("the document", "nothing like it", "this sentence");
        }
    }

    void is(String call, long got, long want) {
        if (got != want) {
            tell(call, String.valueOf(got), String.valueOf(want));
        }
    }

    void is(String call, boolean got, boolean want) {
        if (got != want) {
            tell(call, String.valueOf(got), String.valueOf(want));
        }
    }

    /** Floats must be the same to the last bit. */
    void is(String call, float got, float want) {
        if (Float.floatToIntBits(got) != Float.floatToIntBits(want)) {
            tell(call, String.valueOf(got), String.valueOf(want));
        }
    }

    void is(String call, String got, String want) {
        if (!got.equals(want)) {
            tell(call, got, want);
        }
    }

    /** The call must throw just this class, not one below it. */
    void throwsA(String call, Class<? extends RuntimeException> want, IntSupplier body) {
        String got;
        try {
            got = String.valueOf(body.getAsInt());
        } catch (RuntimeException e) {
            got = e.getClass().getName();
        }
        if (!got.equals(want.getName())) {
            tell(call, got, want.getName());
        }
    }

    private void tell(String call, String got, String want) {
        wrong++;
        System.out.println(about + call + " answered " + got + ", due is " + want);
    }

    void end() {
        System.out.println(wrong == 0 ? "all answers are as due" : wrong + " answers are not as due");
        if (wrong != 0) {
            System.exit(1);
        }
    }
}
