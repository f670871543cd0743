/** Ways in which an object may stand when a call comes. */
enum Standing {
    /** Nothing has been called yet. */
    NEW(true, false) {
        @Override
        void bring(OxenKneel x) {
            // It stands so already.
        }
    },
    /** Persons are within, coin lies there, there are sights, both images are kept, and the pad can be told. */
    BUSY(true, true) {
        @Override
        void bring(OxenKneel x) {
            x.shift(30);
            x.kneel(100);
            x.clock(100, 0, 42);
            x.person(2, 99);
            x.seen(0, true);
            x.seen(60, false);
            x.image(1);
            Check.write(x, "A(B(C(B>C$9A$3");
            x.done();
            x.image(0);
            x.person(3, 50);
            x.seen(56, false);
            Check.write(x, "B$2B>h1C%");
        }
    },
    /** As BUSY, but all have come out: coin lies there yet. */
    LYING(true, true) {
        @Override
        void bring(OxenKneel x) {
            BUSY.bring(x);
            Check.write(x, "A)B)C)");
            x.done();
        }
    },
    /** As BUSY, but there is a fault on the pad: a digit must come. */
    FAULTY(false, true) {
        @Override
        void bring(OxenKneel x) {
            BUSY.bring(x);
            Check.write(x, "A$");
        }
    },
    /** As BUSY, but there is an act on the pad that can not be. */
    CAN_NOT_BE(false, true) {
        @Override
        void bring(OxenKneel x) {
            BUSY.bring(x);
            Check.write(x, "h1A(");
        }
    },
    /** Sixty signs are on the pad, and can be told. */
    PAD_FULL(true, false) {
        @Override
        void bring(OxenKneel x) {
            Check.write(x, "k".repeat(60));
        }
    },
    /** There are eight sights. */
    SIGHTS_FULL(true, false) {
        @Override
        void bring(OxenKneel x) {
            x.seen(0, true);
            for (int hour = 1; hour < 8; hour++) {
                x.seen(hour, false);
            }
        }
    };

    /** Whether done() can be. */
    final boolean isTellable;
    /** Whether a person is within, or something lies there; both images are kept then, else none is. */
    final boolean isPeopled;

    Standing(boolean isTellable, boolean isPeopled) {
        this.isTellable = isTellable;
        this.isPeopled = isPeopled;
    }

    abstract void bring(OxenKneel x);

    OxenKneel made() {
        OxenKneel x = new OxenKneel();
        bring(x);
        return x;
    }
}
