/** All that a house tells but what was broken, as a text; what is in the row is used up by it. */
final class State {

    private static final int[] ROWS = {1, 2, 3, 4, 5, 6};

    private final Circuitfold house;
    private final StringBuilder text = new StringBuilder();

    private State(Circuitfold house) {
        this.house = house;
    }

    static String of(Circuitfold house) {
        State state = new State(house);
        state.tellMatroids();
        state.tellRow();
        return state.text.toString();
    }

    private void tell(Object answer) {
        text.append(answer).append(' ');
    }

    private void tellMatroids() {
        tell(house.matroids());
        for (int matroid = 0; matroid < house.matroids(); matroid++) {
            int number = matroid;
            tell(house.size(number));
            tell(house.count(number, 'b'));
            tell(house.value(number, -2, 3));
            tell(house.setAt(number, 'b', 0));
            tell(Due.outcome(() -> house.greedy(number)));
        }
        tell(Due.outcome(house::binaryShare));
        tell(Due.outcome(house::meanBases));
        tell(house.isSound());
    }

    /** What can be made of the row tells what is in it; some numbers more, if there is room, part it into columns. */
    private void tellRow() {
        int made = house.matroids();
        tell(Due.outcome(house::graph));
        tell(Due.outcome(() -> house.meeting(10)));
        for (int rows : ROWS) {
            tell(Due.outcome(() -> house.columns(5, rows)));
        }
        tell(Due.outcome(() -> house.type(1)));
        tell(Due.outcome(() -> house.columns(5, 3)));
        tell(house.erase());
        for (int matroid = made; matroid < house.matroids() && matroid <= made + 1; matroid++) {
            tell(house.size(matroid));
            tell(house.count(matroid, 'b'));
            tell(house.value(matroid, -2, 3));
            tell(house.setAt(matroid, 'b', 0));
        }
    }
}
