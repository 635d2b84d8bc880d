/** Counts answers that are not due, and prints each of them. */
final class Checks {
    private static int asked;
    private static int wrong;

    private Checks() {
    }

    static void due(String what, long got, long want) {
        asked++;
        if (got != want) {
            wrong++;
            System.out.println(what + " answered " + got + ", due is " + want);
        }
    }

    static void due(String what, boolean got, boolean want) {
        due(what, got ? 1 : 0, want ? 1 : 0);
    }

    static void due(String what, String got, String want) {
        asked++;
        if (!got.equals(want)) {
            wrong++;
            System.out.println(what + " answered\n" + got + "\ndue is\n" + want);
        }
    }

    /** A file must load, with so many pages. */
    static House loads(String what, String file, int pages) {
        House house = new House();
        due(what + ": load", Files.load(house, file), pages);
        due(what + ": fault(0)", house.fault(0), 0);
        due(what + ": fault(1)", house.fault(1), -1);
        return house;
    }

    /** A file must be refused, with that fault at that place. */
    static House refuses(String what, String file, int fault, int place) {
        House house = new House();
        due(what + ": load", Files.load(house, file), -100 - fault);
        due(what + ": fault(0)", house.fault(0), fault);
        due(what + ": fault(1)", house.fault(1), place);
        due(what + ": pages", house.pages(), -1);
        return house;
    }

    static void end() {
        System.out.println(asked + " answers asked, " + wrong + " wrong");
        if (wrong != 0) {
            System.exit(1);
        }
    }
}
