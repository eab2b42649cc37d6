/-! the law, held against the bytes, in pieces: printed by wip/whole/code.py -/
def kL_d4 : List (Nat × zIn) := kL_d3.drop 60
set_option maxRecDepth 100000 in
theorem okL_4 : (kL_d4.take 60).all (zick cL_law 309) = true := by decide +kernel
def kL_d5 : List (Nat × zIn) := kL_d4.drop 60
set_option maxRecDepth 100000 in
theorem okL_5 : (kL_d5.take 60).all (zick cL_law 309) = true := by decide +kernel
