final class ModelTests {}
