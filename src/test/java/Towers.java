/** Towers that the tests begin with. */
final class Towers {
    static final int[] PLAIN_BOB = {21, 10, 21, 10, 21, 10, 21, 10, 21, 10, 21, 20};
    static final int[] PLAIN_HUNT = {21, 10};
    static final int[] SWAY = {17, 0, 17, 17};

    private Towers() {
    }

    static int addMethod(BellRoster tower, int... changes) {
        int method = tower.method();
        for (int change : changes) {
            tower.add(method, change);
        }
        return method;
    }

    /** Six ringers, 0 to 5, put to the bells 0 to 5 of the band 0, all with this skill and these votes. */
    static BellRoster withBand(int skill, int votes) {
        BellRoster tower = new BellRoster();
        for (int i = 0; i < 6; i++) {
            tower.ringer(i % 4, skill, votes);
            tower.put(0, i, i);
        }
        return tower;
    }
}
