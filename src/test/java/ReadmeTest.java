import java.io.IOException;
import java.nio.file.Files;
import java.nio.file.Path;

/** What README.md shows must be so, and it must name every call of the face. */
public final class ReadmeTest {
    private static final Due due = new Due();

    public static void main(String[] args) throws IOException {
        theRunThatIsShown();
        everyCallIsNamed();
        due.end();
    }

    private static void theRunThatIsShown() {
        ModuleLoaders x = new ModuleLoaders();
        int library = x.loader(ModuleLoaders.NONE, false);
        int program = x.loader(library, false);
        x.put(library, 5, x.file(5, 50, ModuleLoaders.NONE, ModuleLoaders.NONE, 0));
        x.put(program, 6, x.file(6, 60, 5, ModuleLoaders.NONE, 0));
        int module = x.load(program, 6);
        due.is("module", module, 1);
        int thing = x.thing(module);
        due.is("thing", thing, 0);
        due.order("the order", x, 50, 60);
        due.is("cast", x.cast(thing, x.known(program, 5)), 1);
        due.is("letGo", x.letGo(program), 1);
        due.is("isHeld", x.isHeld(module), 1);
    }

    private static void everyCallIsNamed() throws IOException {
        String readme = Files.readString(Path.of("README.md"));
        String[] calls = {"file(inner, content, parent, need, flags)", "loader(above, own)", "put(loader, name, file)",
            "load(loader, name)", "define(loader, name, file)", "anew(loader, name, file)", "known(loader, name)",
            "begin(module)", "thing(module)", "cast(thing, module)", "drop(thing)", "letGo(loader)", "held(loader)",
            "isHeld(module)", "about(module, what)", "aboutThing(thing, what)", "order(i)", "count(what)"};
        for (String call : calls) {
            due.is("README.md names " + call, readme.contains("`" + call + "`") ? 1 : 0, 1);
        }
    }
}
