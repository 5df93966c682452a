final class LanguageTests { static String source; }
