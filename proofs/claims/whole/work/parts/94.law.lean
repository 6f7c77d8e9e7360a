theorem zlaw : zLaw := sorry
