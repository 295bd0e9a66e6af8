/** All that can be asked of a workbook, as one text. */
final class State {
    private State() {
    }

    static String of(MeteredSheets x) {
        StringBuilder text = new StringBuilder();
        for (int sheet = 0; sheet < 4; sheet++) {
            text.append("sheet ").append(sheet).append(": budget ").append(x.budget(sheet));
            text.append(", earned ").append(x.earned(sheet)).append(", readOf ").append(x.readOf(sheet));
            // The price can only be asked by setting it.
            int price = x.setPrice(sheet, 0);
            x.setPrice(sheet, price);
            text.append(", price ").append(price).append('\n');
        }
        for (int user = 0; user < 5; user++) {
            text.append("user ").append(user).append(" caused ").append(x.caused(user)).append('\n');
        }
        for (int cell = 0; cell < 24; cell++) {
            text.append("cell ").append(cell).append(": ").append(x.value(cell));
            text.append(x.isMarked(cell) ? " marked" : "").append(", anew ").append(x.valueAnew(cell));
            for (int read = 0; read < 24; read++) {
                if (x.timesRead(cell, read) != 0) {
                    text.append(", read ").append(read).append(" times ").append(x.timesRead(cell, read));
                }
            }
            text.append('\n');
        }
        for (int reading = 0; reading < x.readings(); reading++) {
            text.append(x.reading(reading)).append(' ');
        }
        return text.append("of ").append(x.readings()).append(" readings\n").toString();
    }
}
