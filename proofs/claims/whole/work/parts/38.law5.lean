/-! the law, held against the bytes, in pieces: printed by wip/whole/code.py -/
def kL_d10 : List (Nat × zIn) := kL_d9.drop 60
set_option maxRecDepth 100000 in
theorem okL_10 : (kL_d10.take 60).all (zick cL_law 309) = true := by decide +kernel
def kL_d11 : List (Nat × zIn) := kL_d10.drop 60
set_option maxRecDepth 100000 in
theorem okL_11 : (kL_d11.take 60).all (zick cL_law 309) = true := by decide +kernel
