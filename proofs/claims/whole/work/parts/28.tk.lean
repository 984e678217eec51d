/-! the acts of the object: what they lean on -/
/-! an estate taken over -/
/-! an hour passes -/
