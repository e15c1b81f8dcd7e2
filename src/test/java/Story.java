/** A run of calls on a depot. It can be told to several depots, which are alike afterwards. */
interface Story {
    void tell(PromiseDepot depot);

    default Story then(Story next) {
        return depot -> {
            tell(depot);
            next.tell(depot);
        };
    }

    /** The same calls once more, with their exceptions passed over. */
    default Story refused() {
        return depot -> Check.thrownBy(() -> tell(depot));
    }

    default PromiseDepot depot() {
        PromiseDepot depot = new PromiseDepot();
        tell(depot);
        return depot;
    }
}
