/** Houses for the tests. */
final class Houses {
    private Houses() {
    }

    /** A house to which dancers have come: a column and a row for each. */
    static Stepscript at(int... places) {
        Stepscript house = new Stepscript();
        for (int i = 0; i + 1 < places.length; i += 2) {
            house.dancer(places[i], places[i + 1]);
        }
        return house;
    }
}
