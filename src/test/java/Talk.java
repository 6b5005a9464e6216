/** placeholder */
final class Talk {
}
