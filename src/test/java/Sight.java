/** All that can be seen of a house by calls that change nothing. */
final class Sight {
    private Sight() {
    }

    static String of(Writeback house) {
        StringBuilder text = new StringBuilder();
        for (int file = 0; file < 8; file++) {
            try {
                house.onPlace(file, 0);
            } catch (IndexOutOfBoundsException e) {
                break;
            }
            for (int block = 0; block < 16; block++) {
                text.append(house.frameOf(file, block)).append(house.isDirty(file, block) ? "d" : "c")
                        .append(house.onPlace(file, block)).append(' ');
            }
        }
        text.append('|').append(house.countWritten()).append(' ').append(house.countLog());
        text.append(' ').append(house.hasPower()).append(' ').append(house.scrub(0)).append(' ').append(house.scrub(1));
        text.append('|').append(house.countPages()).append(' ').append(house.countDirty());
        text.append(' ').append(house.getArm()).append(' ').append(house.countHits());
        text.append(' ').append(house.countMisses()).append(' ').append(house.countWaits());
        text.append(' ').append(house.countAhead()).append(' ').append(house.countUseful());
        for (int place = 0; place < 64; place++) {
            text.append(' ').append(house.getWear(place));
        }
        for (int tenant = 0; tenant < 3; tenant++) {
            text.append(" b").append(house.getBill(tenant));
        }
        for (char policy : new char[] {'l', 'f', 'c', 'b'}) {
            text.append(' ').append(policy).append(house.missesBy(policy, 3));
        }
        text.append(' ').append(house.checksum()).append(' ').append(house.isSound());
        return text.toString();
    }
}
