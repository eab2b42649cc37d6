/-! the law, held against the bytes, in pieces: printed by wip/whole/code.py -/
def kL_d8 : List (Nat × zIn) := kL_d7.drop 60
set_option maxRecDepth 100000 in
theorem okL_8 : (kL_d8.take 60).all (zick cL_law 309) = true := by decide +kernel
def kL_d9 : List (Nat × zIn) := kL_d8.drop 60
set_option maxRecDepth 100000 in
theorem okL_9 : (kL_d9.take 60).all (zick cL_law 309) = true := by decide +kernel
