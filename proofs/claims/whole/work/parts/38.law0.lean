/-! the law, held against the bytes, in pieces: printed by wip/whole/code.py -/
theorem zall_cut {p : Nat × zIn → Bool} {L : List (Nat × zIn)} (n : Nat) (h1 : (L.take n).all p = true) (h2 : (L.drop n).all p = true) : L.all p = true := by
  rw [← List.take_append_drop n L, List.all_append, h1, h2]; rfl
def kL_d0 : List (Nat × zIn) := kL_law
set_option maxRecDepth 100000 in
theorem okL_0 : (kL_d0.take 60).all (zick cL_law 309) = true := by decide +kernel
def kL_d1 : List (Nat × zIn) := kL_d0.drop 60
set_option maxRecDepth 100000 in
theorem okL_1 : (kL_d1.take 60).all (zick cL_law 309) = true := by decide +kernel
