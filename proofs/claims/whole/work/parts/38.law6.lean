/-! the law, held against the bytes, in pieces: printed by wip/whole/code.py -/
def kL_d12 : List (Nat × zIn) := kL_d11.drop 60
set_option maxRecDepth 100000 in
theorem okL_12 : (kL_d12.take 60).all (zick cL_law 309) = true := by decide +kernel
def kL_d13 : List (Nat × zIn) := kL_d12.drop 60
set_option maxRecDepth 100000 in
theorem okL_13 : kL_d13.all (zick cL_law 309) = true := by decide +kernel
theorem okL_law : ∀ q ∈ kL_law, zick (zmt 309).2.1 309 q = true := List.all_eq_true.mp (show kL_law.all (zick cL_law 309) = true from (zall_cut 60 okL_0 (zall_cut 60 okL_1 (zall_cut 60 okL_2 (zall_cut 60 okL_3 (zall_cut 60 okL_4 (zall_cut 60 okL_5 (zall_cut 60 okL_6 (zall_cut 60 okL_7 (zall_cut 60 okL_8 (zall_cut 60 okL_9 (zall_cut 60 okL_10 (zall_cut 60 okL_11 (zall_cut 60 okL_12 okL_13))))))))))))))
