/-! every method is looked at (5) -/
