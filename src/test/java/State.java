import java.util.List;

/** All that can be asked of a plane: THE RESULT, THE MATRIX and where the latest move() came to. */
record State(int kind, int number, List<Integer> matrix, int x, int y) {
    static State of(FixedPlane plane) {
        List<Integer> matrix = List.of(plane.entry(0), plane.entry(1), plane.entry(2),
            plane.entry(3), plane.entry(4), plane.entry(5));
        return new State(plane.kind(), plane.number(), matrix, plane.moved(0), plane.moved(1));
    }

    State withResult(int newKind, int newNumber) {
        return new State(newKind, newNumber, matrix, x, y);
    }

    State withMatrix(int... six) {
        return new State(kind, number, List.of(six[0], six[1], six[2], six[3], six[4], six[5]), x, y);
    }

    State withMoved(int newX, int newY) {
        return new State(kind, number, matrix, newX, newY);
    }
}
