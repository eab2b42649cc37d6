/-! the law, held against the bytes, in pieces: printed by wip/whole/code.py -/
def kL_d6 : List (Nat × zIn) := kL_d5.drop 60
set_option maxRecDepth 100000 in
theorem okL_6 : (kL_d6.take 60).all (zick cL_law 309) = true := by decide +kernel
def kL_d7 : List (Nat × zIn) := kL_d6.drop 60
set_option maxRecDepth 100000 in
theorem okL_7 : (kL_d7.take 60).all (zick cL_law 309) = true := by decide +kernel
