/** A run of calls on a new object. */
interface Run {
    void on(KeptTree x);

    /** This run and one more behind it. */
    default Run and(Run more) {
        return x -> {
            on(x);
            more.on(x);
        };
    }

    /** A new object behind this run. */
    default KeptTree made() {
        KeptTree x = new KeptTree();
        on(x);
        return x;
    }
}
