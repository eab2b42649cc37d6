/-! the law, held against the bytes, in pieces: printed by wip/whole/code.py -/
def kL_d2 : List (Nat × zIn) := kL_d1.drop 60
set_option maxRecDepth 100000 in
theorem okL_2 : (kL_d2.take 60).all (zick cL_law 309) = true := by decide +kernel
def kL_d3 : List (Nat × zIn) := kL_d2.drop 60
set_option maxRecDepth 100000 in
theorem okL_3 : (kL_d3.take 60).all (zick cL_law 309) = true := by decide +kernel
