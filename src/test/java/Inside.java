import java.lang.reflect.Field;

/** Reaches into a game: no run of calls makes one unsound, so a test of that has to. */
final class Inside {
    private Inside() {
    }

    /** The tick to which a lord's lease of a gate is. */
    static void leaseAt(Castlequorum game, int castle, int gate, int lord, int tick) {
        Object[] gates = (Object[]) part(castleOf(game, castle), "gates");
        ((int[]) part(gates[gate], "leaseTills"))[lord] = tick;
    }

    static void amountAt(Castlequorum game, int castle, int entry, int amount) {
        ((int[]) part(part(castleOf(game, castle), "row"), "amounts"))[entry] = amount;
    }

    private static Object castleOf(Castlequorum game, int castle) {
        return part(game, castle == 0 ? "first" : "second");
    }

    private static Object part(Object owner, String name) {
        try {
            Field field = owner.getClass().getDeclaredField(name);
            field.setAccessible(true);
            return field.get(owner);
        } catch (ReflectiveOperationException changed) {
            throw new IllegalStateException("the class has no " + name + " any more", changed);
        }
    }
}
