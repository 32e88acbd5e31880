/** All that a hall tells of itself, as one text. */
final class Snapshot {
    private final BatchHall hall;
    private final StringBuilder text = new StringBuilder();

    private Snapshot(BatchHall hall) {
        this.hall = hall;
    }

    static String of(BatchHall hall) {
        Snapshot snapshot = new Snapshot(hall);
        snapshot.tellUnits();
        snapshot.tellBatches();
        snapshot.tellLots();
        return snapshot.text.toString();
    }

    private void tellUnits() {
        for (int unit = 0; unit < 6; unit++) {
            text.append("unit ").append(unit).append(':');
            for (int what = 0; what < 4; what++) {
                text.append(' ').append(hall.unitIs(unit, what));
            }
            for (int i = 0; hall.content(unit, i, 0) >= 0; i++) {
                text.append(' ').append(hall.content(unit, i, 0)).append('x').append(hall.content(unit, i, 1));
            }
            text.append('\n');
        }
    }

    private void tellBatches() {
        for (int batch = 0; hall.batchIs(batch, 0) >= 0; batch++) {
            text.append("batch ").append(batch).append(':');
            for (int what = 0; what < 5; what++) {
                text.append(' ').append(hall.batchIs(batch, what));
            }
            for (int role = 0; role < 3; role++) {
                text.append(' ').append(hall.unitOf(batch, role));
            }
            for (int i = 0; hall.token(batch, i) >= 0; i++) {
                text.append(" at ").append(hall.token(batch, i));
            }
            text.append('\n');
        }
    }

    private void tellLots() {
        text.append(hall.lots()).append(" lots\n");
        for (int lot = 0; hall.lot(lot, 0) >= 0; lot++) {
            text.append("lot ").append(lot).append(':');
            for (int what = 0; what < 5; what++) {
                text.append(' ').append(hall.lot(lot, what));
            }
            for (int i = 0; hall.from(lot, i, 0) >= 0; i++) {
                text.append(' ').append(hall.from(lot, i, 0)).append('x').append(hall.from(lot, i, 1));
            }
            text.append('\n');
        }
    }
}
