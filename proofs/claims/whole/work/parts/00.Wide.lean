/-! names a row of the whole library at once, so that the rounds are read over it from the first part on -/
theorem wide_lib : Bundle.ownAtomsX = Bundle.ownAtomsX := rfl
