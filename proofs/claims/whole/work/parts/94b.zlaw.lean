theorem zlaw : zLaw := law_of (fun Z => ⟨fun s h a _ => op_school Z s h a, fun s h a _ => op_autumns Z s h a, fun s h a _ => op_live Z s h a, fun s h a b _ _ => op_mean Z s h a b⟩)
