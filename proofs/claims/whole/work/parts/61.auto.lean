/-! printed by wip/whole/dec2.py -/
def u_X9_readUnit_h0_1 (N : Nat) (v1 : Int32) (v2 : Int32) (v3 : Int32) (v4 : Int32) (v5 : Int32) (v6 : Int32) (σ : zS) : zS := s_X9_fail 1 σ
def u_X9_readUnit_h1_1 (N : Nat) (v1 : Int32) (v2 : Int32) (v3 : Int32) (v4 : Int32) (v5 : Int32) (v6 : Int32) (σ : zS) : zS := s_X9_fail 2 σ
def u_X9_readUnit_h3_1 (N : Nat) (v1 : Int32) (v2 : Int32) (v3 : Int32) (v4 : Int32) (v5 : Int32) (v6 : Int32) (σ : zS) : zS := s_X9_fail 4 σ
def u_X9_readUnit_h4_1 (N : Nat) (v1 : Int32) (v2 : Int32) (v3 : Int32) (v4 : Int32) (v5 : Int32) (v6 : Int32) (σ : zS) : zS := s_X9_fail 4 σ
def u_X9_readUnit_h6_1 (N : Nat) (v1 : Int32) (v2 : Int32) (v3 : Int32) (v4 : Int32) (v5 : Int32) (v6 : Int32) (σ : zS) : zS := s_X9_fail 5 σ
def u_X9_readUnit_h7_1 (N : Nat) (v1 : Int32) (v2 : Int32) (v3 : Int32) (v4 : Int32) (v5 : Int32) (v6 : Int32) (σ : zS) : zS := zuI σ 478 (v1).toNatClampNeg ((σ.1 478 (v1).toNatClampNeg) + 1)
def u_X9_readUnit_h7_2 (N : Nat) (v1 : Int32) (v2 : Int32) (v3 : Int32) (v4 : Int32) (v5 : Int32) (v6 : Int32) (σ : zS) : zS := s_X9_lay v1 1 v6 (u_X9_readUnit_h7_1 N v1 v2 v3 v4 v5 v6 σ)
def u_X9_readUnit_h7_3 (N : Nat) (v1 : Int32) (v2 : Int32) (v3 : Int32) (v4 : Int32) (v5 : Int32) (v6 : Int32) (σ : zS) : zS := zuI (u_X9_readUnit_h7_2 N v1 v2 v3 v4 v5 v6 σ) 468 39 2
def u_X9_readUnit_h7_4 (N : Nat) (v1 : Int32) (v2 : Int32) (v3 : Int32) (v4 : Int32) (v5 : Int32) (v6 : Int32) (σ : zS) : zS := s_X9_lay v1 1 ((u_X9_readUnit_h7_1 N v1 v2 v3 v4 v5 v6 σ).1 468 23) (u_X9_readUnit_h7_1 N v1 v2 v3 v4 v5 v6 σ)
def u_X9_readUnit_h7_5 (N : Nat) (v1 : Int32) (v2 : Int32) (v3 : Int32) (v4 : Int32) (v5 : Int32) (v6 : Int32) (σ : zS) : zS := zuI (u_X9_readUnit_h7_4 N v1 v2 v3 v4 v5 v6 σ) 468 39 2
def u_X9_readUnit_h7_6 (N : Nat) (v1 : Int32) (v2 : Int32) (v3 : Int32) (v4 : Int32) (v5 : Int32) (v6 : Int32) (σ : zS) : zS := s_X9_lay v1 0 v6 (u_X9_readUnit_h7_1 N v1 v2 v3 v4 v5 v6 σ)
def u_X9_readUnit_h7_7 (N : Nat) (v1 : Int32) (v2 : Int32) (v3 : Int32) (v4 : Int32) (v5 : Int32) (v6 : Int32) (σ : zS) : zS := zuI (u_X9_readUnit_h7_6 N v1 v2 v3 v4 v5 v6 σ) 468 39 2
def u_X9_readUnit_h7_8 (N : Nat) (v1 : Int32) (v2 : Int32) (v3 : Int32) (v4 : Int32) (v5 : Int32) (v6 : Int32) (σ : zS) : zS := s_X9_lay v1 0 ((u_X9_readUnit_h7_1 N v1 v2 v3 v4 v5 v6 σ).1 468 23) (u_X9_readUnit_h7_1 N v1 v2 v3 v4 v5 v6 σ)
def u_X9_readUnit_h7_9 (N : Nat) (v1 : Int32) (v2 : Int32) (v3 : Int32) (v4 : Int32) (v5 : Int32) (v6 : Int32) (σ : zS) : zS := zuI (u_X9_readUnit_h7_8 N v1 v2 v3 v4 v5 v6 σ) 468 39 2
def u_X9_readUnit_h7_10 (N : Nat) (v1 : Int32) (v2 : Int32) (v3 : Int32) (v4 : Int32) (v5 : Int32) (v6 : Int32) (σ : zS) : zS := s_X9_scan N (u_X9_readUnit_h7_1 N v1 v2 v3 v4 v5 v6 σ)
def u_X9_readUnit_h7_11 (N : Nat) (v1 : Int32) (v2 : Int32) (v3 : Int32) (v4 : Int32) (v5 : Int32) (v6 : Int32) (σ : zS) : zS := s_X9_push 105 v5 0 (u_X9_readUnit_h7_10 N v1 v2 v3 v4 v5 v6 σ)
def u_X9_readUnit_h7_12 (N : Nat) (v1 : Int32) (v2 : Int32) (v3 : Int32) (v4 : Int32) (v5 : Int32) (v6 : Int32) (σ : zS) : zS := zuI (u_X9_readUnit_h7_11 N v1 v2 v3 v4 v5 v6 σ) 468 38 (((u_X9_readUnit_h7_11 N v1 v2 v3 v4 v5 v6 σ).1 468 38) + 1)
def u_X9_readUnit_h7_13 (N : Nat) (v1 : Int32) (v2 : Int32) (v3 : Int32) (v4 : Int32) (v5 : Int32) (v6 : Int32) (σ : zS) : zS := zuI (u_X9_readUnit_h7_12 N v1 v2 v3 v4 v5 v6 σ) 468 39 0
def u_X9_readUnit_h8_1 (N : Nat) (v1 : Int32) (v2 : Int32) (v3 : Int32) (v4 : Int32) (v5 : Int32) (v6 : Int32) (σ : zS) : zS := s_X9_push 7 0 0 σ
def u_X9_readUnit_h8_2 (N : Nat) (v1 : Int32) (v2 : Int32) (v3 : Int32) (v4 : Int32) (v5 : Int32) (v6 : Int32) (σ : zS) : zS := zuI (u_X9_readUnit_h8_1 N v1 v2 v3 v4 v5 v6 σ) 468 38 (((u_X9_readUnit_h8_1 N v1 v2 v3 v4 v5 v6 σ).1 468 38) + 1)
def u_X9_readUnit_h8_3 (N : Nat) (v1 : Int32) (v2 : Int32) (v3 : Int32) (v4 : Int32) (v5 : Int32) (v6 : Int32) (σ : zS) : zS := zuI (u_X9_readUnit_h8_2 N v1 v2 v3 v4 v5 v6 σ) 468 39 1
def u_X9_readUnit_h8_4 (N : Nat) (v1 : Int32) (v2 : Int32) (v3 : Int32) (v4 : Int32) (v5 : Int32) (v6 : Int32) (σ : zS) : zS := zuI (u_X9_readUnit_h8_2 N v1 v2 v3 v4 v5 v6 σ) 468 39 0
def u_X9_readUnit_h8_5 (N : Nat) (v1 : Int32) (v2 : Int32) (v3 : Int32) (v4 : Int32) (v5 : Int32) (v6 : Int32) (σ : zS) : zS := s_X9_push 104 0 0 σ
def u_X9_readUnit_h8_6 (N : Nat) (v1 : Int32) (v2 : Int32) (v3 : Int32) (v4 : Int32) (v5 : Int32) (v6 : Int32) (σ : zS) : zS := zuI (u_X9_readUnit_h8_5 N v1 v2 v3 v4 v5 v6 σ) 468 38 (((u_X9_readUnit_h8_5 N v1 v2 v3 v4 v5 v6 σ).1 468 38) + 1)
def u_X9_readUnit_h8_7 (N : Nat) (v1 : Int32) (v2 : Int32) (v3 : Int32) (v4 : Int32) (v5 : Int32) (v6 : Int32) (σ : zS) : zS := zuI (u_X9_readUnit_h8_6 N v1 v2 v3 v4 v5 v6 σ) 468 39 1
def u_X9_readUnit_h8_8 (N : Nat) (v1 : Int32) (v2 : Int32) (v3 : Int32) (v4 : Int32) (v5 : Int32) (v6 : Int32) (σ : zS) : zS := zuI (u_X9_readUnit_h8_6 N v1 v2 v3 v4 v5 v6 σ) 468 39 0
def u_X9_readUnit_h9_1 (N : Nat) (v1 : Int32) (v2 : Int32) (v3 : Int32) (v4 : Int32) (v5 : Int32) (v6 : Int32) (σ : zS) : zS := s_X9_scan N σ
def u_X9_readUnit_h9_2 (N : Nat) (v1 : Int32) (v2 : Int32) (v3 : Int32) (v4 : Int32) (v5 : Int32) (v6 : Int32) (σ : zS) : zS := s_X9_closeMinus v1 N (u_X9_readUnit_h9_1 N v1 v2 v3 v4 v5 v6 σ)
def l_X9_readUnit (N : Nat) : Nat → Nat → Int32 → Int32 → Int32 → Int32 → Int32 → Int32 → zS → zS
  | 0, _, _, _, _, _, _, _, σ => σ
  | n + 1, 0, v1, v2, v3, v4, v5, v6, σ => if v2 = 0 then (if v3 = 0 then (if (f_X9_isName σ) = 0 then (if (σ.1 468 22) = 3 then (l_X9_readUnit N n 1 v1 v2 v3 0 0 0 σ) else (l_X9_readUnit N n 2 v1 v2 v3 0 0 0 (u_X9_readUnit_h0_1 N v1 v2 v3 v4 v5 v6 σ))) else (l_X9_readUnit N n 1 v1 v2 v3 0 0 0 σ)) else (l_X9_readUnit N n 1 v1 v2 v3 0 0 0 σ)) else (l_X9_readUnit N n 1 v1 v2 v3 0 0 0 σ)
  | n + 1, 1, v1, v2, v3, v4, v5, v6, σ => if (σ.1 468 22) = 3 then (if (σ.1 468 23) ≤ 9999 then (l_X9_readUnit N n 2 v1 v2 v3 0 0 0 σ) else (l_X9_readUnit N n 2 v1 v2 v3 0 0 0 (u_X9_readUnit_h1_1 N v1 v2 v3 v4 v5 v6 σ))) else (l_X9_readUnit N n 2 v1 v2 v3 0 0 0 σ)
  | n + 1, 2, v1, v2, v3, v4, v5, v6, σ => if (f_X9_isName σ) = 0 then (l_X9_readUnit N n 3 v1 v2 v3 0 0 0 σ) else (if (f_X9_isOpenBehind N σ) = 0 then (l_X9_readUnit N n 3 v1 v2 v3 0 0 0 σ) else (if (f_X9_isName σ) = 0 then (l_X9_readUnit N n 4 v1 v2 v3 1 (f_X9_functionHere (σ.1 476 (v1).toNatClampNeg) N σ) 0 σ) else (l_X9_readUnit N n 4 v1 v2 v3 1 (f_X9_functionHere (σ.1 476 (v1).toNatClampNeg) N σ) 0 σ)))
  | n + 1, 3, v1, v2, v3, v4, v5, v6, σ => if (f_X9_isName σ) = 0 then (l_X9_readUnit N n 4 v1 v2 v3 0 (-1) 0 σ) else (if (f_X9_isName σ) = 0 then (l_X9_readUnit N n 5 v1 v2 v3 0 (-1) (f_X9_parameterHere N σ) σ) else (if 0 ≤ (f_X9_parameterHere N σ) then (l_X9_readUnit N n 5 v1 v2 v3 0 (-1) (f_X9_parameterHere N σ) σ) else (l_X9_readUnit N n 5 v1 v2 v3 0 (-1) (f_X9_parameterHere N σ) (u_X9_readUnit_h3_1 N v1 v2 v3 v4 v5 v6 σ))))
  | n + 1, 4, v1, v2, v3, v4, v5, v6, σ => if (f_X9_isName σ) = 0 then (l_X9_readUnit N n 5 v1 v2 v3 v4 v5 (-1) σ) else (if 0 ≤ v5 then (l_X9_readUnit N n 5 v1 v2 v3 v4 v5 (-1) σ) else (l_X9_readUnit N n 5 v1 v2 v3 v4 v5 (-1) (u_X9_readUnit_h4_1 N v1 v2 v3 v4 v5 v6 σ)))
  | n + 1, 5, v1, v2, v3, v4, v5, v6, σ => if (σ.1 478 (v1).toNatClampNeg) = 80 then (l_X9_readUnit N n 6 v1 v2 v3 v4 v5 v6 σ) else (if 5 < (σ.1 468 38) then (l_X9_readUnit N n 6 v1 v2 v3 v4 v5 v6 σ) else (if (f_X9_isTooMany v1 σ) = 0 then (l_X9_readUnit N n 7 v1 v2 v3 v4 v5 v6 σ) else (l_X9_readUnit N n 6 v1 v2 v3 v4 v5 v6 σ)))
  | n + 1, 6, v1, v2, v3, v4, v5, v6, σ => l_X9_readUnit N n 7 v1 v2 v3 v4 v5 v6 (u_X9_readUnit_h6_1 N v1 v2 v3 v4 v5 v6 σ)
  | n + 1, 7, v1, v2, v3, v4, v5, v6, σ => if (σ.1 468 25) ≤ 0 then (if v2 = 0 then (if v3 = 0 then (if v4 = 0 then (if ((u_X9_readUnit_h7_1 N v1 v2 v3 v4 v5 v6 σ).1 468 22) = 3 then (if ((u_X9_readUnit_h7_1 N v1 v2 v3 v4 v5 v6 σ).1 468 22) = 3 then (l_X9_readUnit N n 9 v1 v2 v3 v4 v5 v6 (u_X9_readUnit_h7_9 N v1 v2 v3 v4 v5 v6 σ)) else (l_X9_readUnit N n 9 v1 v2 v3 v4 v5 v6 (u_X9_readUnit_h7_7 N v1 v2 v3 v4 v5 v6 σ))) else (if ((u_X9_readUnit_h7_1 N v1 v2 v3 v4 v5 v6 σ).1 468 22) = 3 then (l_X9_readUnit N n 9 v1 v2 v3 v4 v5 v6 (u_X9_readUnit_h7_5 N v1 v2 v3 v4 v5 v6 σ)) else (l_X9_readUnit N n 9 v1 v2 v3 v4 v5 v6 (u_X9_readUnit_h7_3 N v1 v2 v3 v4 v5 v6 σ)))) else (l_X9_readUnit N n 9 v1 v2 v3 v4 v5 v6 (u_X9_readUnit_h7_13 N v1 v2 v3 v4 v5 v6 σ))) else (l_X9_readUnit N n 8 v1 v2 v3 v4 v5 v6 (u_X9_readUnit_h7_1 N v1 v2 v3 v4 v5 v6 σ))) else (l_X9_readUnit N n 8 v1 v2 v3 v4 v5 v6 (u_X9_readUnit_h7_1 N v1 v2 v3 v4 v5 v6 σ))) else σ
  | n + 1, 8, v1, v2, v3, v4, v5, v6, σ => if v2 = 0 then (if v2 = 0 then (l_X9_readUnit N n 9 v1 v2 v3 v4 v5 v6 (u_X9_readUnit_h8_3 N v1 v2 v3 v4 v5 v6 σ)) else (l_X9_readUnit N n 9 v1 v2 v3 v4 v5 v6 (u_X9_readUnit_h8_4 N v1 v2 v3 v4 v5 v6 σ))) else (if v2 = 0 then (l_X9_readUnit N n 9 v1 v2 v3 v4 v5 v6 (u_X9_readUnit_h8_7 N v1 v2 v3 v4 v5 v6 σ)) else (l_X9_readUnit N n 9 v1 v2 v3 v4 v5 v6 (u_X9_readUnit_h8_8 N v1 v2 v3 v4 v5 v6 σ)))
  | n + 1, 9, v1, v2, v3, v4, v5, v6, σ => if ((u_X9_readUnit_h9_1 N v1 v2 v3 v4 v5 v6 σ).1 468 39) = 2 then (u_X9_readUnit_h9_2 N v1 v2 v3 v4 v5 v6 σ) else (u_X9_readUnit_h9_1 N v1 v2 v3 v4 v5 v6 σ)
  | _ + 1, _, _, _, _, _, _, _, σ => σ
def q_X9_readUnit (N : Nat) : Nat → Nat → Int32 → Int32 → Int32 → Int32 → Int32 → Int32 → zS → Prop
  | 0, _, _, _, _, _, _, _, _ => False
  | n + 1, 0, v1, v2, v3, v4, v5, v6, σ => (¬ v2 = 0 → q_X9_readUnit N n 1 v1 v2 v3 0 0 0 σ) ∧ (v2 = 0 → ((¬ v3 = 0 → q_X9_readUnit N n 1 v1 v2 v3 0 0 0 σ) ∧ (v3 = 0 → ((¬ (f_X9_isName σ) = 0 → q_X9_readUnit N n 1 v1 v2 v3 0 0 0 σ) ∧ ((f_X9_isName σ) = 0 → (((σ.1 468 22) = 3 → q_X9_readUnit N n 1 v1 v2 v3 0 0 0 σ) ∧ (¬ (σ.1 468 22) = 3 → q_X9_readUnit N n 2 v1 v2 v3 0 0 0 (u_X9_readUnit_h0_1 N v1 v2 v3 v4 v5 v6 σ))))))))
  | n + 1, 1, v1, v2, v3, v4, v5, v6, σ => (¬ (σ.1 468 22) = 3 → q_X9_readUnit N n 2 v1 v2 v3 0 0 0 σ) ∧ ((σ.1 468 22) = 3 → (((σ.1 468 23) ≤ 9999 → q_X9_readUnit N n 2 v1 v2 v3 0 0 0 σ) ∧ (¬ (σ.1 468 23) ≤ 9999 → q_X9_readUnit N n 2 v1 v2 v3 0 0 0 (u_X9_readUnit_h1_1 N v1 v2 v3 v4 v5 v6 σ))))
  | n + 1, 2, v1, v2, v3, v4, v5, v6, σ => ((f_X9_isName σ) = 0 → q_X9_readUnit N n 3 v1 v2 v3 0 0 0 σ) ∧ (¬ (f_X9_isName σ) = 0 → (p_X9_isOpenBehind N σ ∧ (((f_X9_isOpenBehind N σ) = 0 → q_X9_readUnit N n 3 v1 v2 v3 0 0 0 σ) ∧ (¬ (f_X9_isOpenBehind N σ) = 0 → (vp_in v1 2 ∧ (p_X9_functionHere (σ.1 476 (v1).toNatClampNeg) N σ ∧ (((f_X9_isName σ) = 0 → q_X9_readUnit N n 4 v1 v2 v3 1 (f_X9_functionHere (σ.1 476 (v1).toNatClampNeg) N σ) 0 σ) ∧ (¬ (f_X9_isName σ) = 0 → q_X9_readUnit N n 4 v1 v2 v3 1 (f_X9_functionHere (σ.1 476 (v1).toNatClampNeg) N σ) 0 σ))))))))
  | n + 1, 3, v1, v2, v3, v4, v5, v6, σ => ((f_X9_isName σ) = 0 → q_X9_readUnit N n 4 v1 v2 v3 0 (-1) 0 σ) ∧ (¬ (f_X9_isName σ) = 0 → (p_X9_parameterHere N σ ∧ (((f_X9_isName σ) = 0 → q_X9_readUnit N n 5 v1 v2 v3 0 (-1) (f_X9_parameterHere N σ) σ) ∧ (¬ (f_X9_isName σ) = 0 → ((0 ≤ (f_X9_parameterHere N σ) → q_X9_readUnit N n 5 v1 v2 v3 0 (-1) (f_X9_parameterHere N σ) σ) ∧ (¬ 0 ≤ (f_X9_parameterHere N σ) → q_X9_readUnit N n 5 v1 v2 v3 0 (-1) (f_X9_parameterHere N σ) (u_X9_readUnit_h3_1 N v1 v2 v3 v4 v5 v6 σ)))))))
  | n + 1, 4, v1, v2, v3, v4, v5, v6, σ => ((f_X9_isName σ) = 0 → q_X9_readUnit N n 5 v1 v2 v3 v4 v5 (-1) σ) ∧ (¬ (f_X9_isName σ) = 0 → ((0 ≤ v5 → q_X9_readUnit N n 5 v1 v2 v3 v4 v5 (-1) σ) ∧ (¬ 0 ≤ v5 → q_X9_readUnit N n 5 v1 v2 v3 v4 v5 (-1) (u_X9_readUnit_h4_1 N v1 v2 v3 v4 v5 v6 σ))))
  | n + 1, 5, v1, v2, v3, v4, v5, v6, σ => vp_in v1 2 ∧ (((σ.1 478 (v1).toNatClampNeg) = 80 → q_X9_readUnit N n 6 v1 v2 v3 v4 v5 v6 σ) ∧ (¬ (σ.1 478 (v1).toNatClampNeg) = 80 → ((5 < (σ.1 468 38) → q_X9_readUnit N n 6 v1 v2 v3 v4 v5 v6 σ) ∧ (¬ 5 < (σ.1 468 38) → (p_X9_isTooMany v1 σ ∧ (((f_X9_isTooMany v1 σ) = 0 → q_X9_readUnit N n 7 v1 v2 v3 v4 v5 v6 σ) ∧ (¬ (f_X9_isTooMany v1 σ) = 0 → q_X9_readUnit N n 6 v1 v2 v3 v4 v5 v6 σ)))))))
  | n + 1, 6, v1, v2, v3, v4, v5, v6, σ => q_X9_readUnit N n 7 v1 v2 v3 v4 v5 v6 (u_X9_readUnit_h6_1 N v1 v2 v3 v4 v5 v6 σ)
  | n + 1, 7, v1, v2, v3, v4, v5, v6, σ => (σ.1 468 25) ≤ 0 → (vp_in v1 2 ∧ ((¬ v2 = 0 → q_X9_readUnit N n 8 v1 v2 v3 v4 v5 v6 (u_X9_readUnit_h7_1 N v1 v2 v3 v4 v5 v6 σ)) ∧ (v2 = 0 → ((v3 = 0 → ((v4 = 0 → ((¬ ((u_X9_readUnit_h7_1 N v1 v2 v3 v4 v5 v6 σ).1 468 22) = 3 → ((¬ ((u_X9_readUnit_h7_1 N v1 v2 v3 v4 v5 v6 σ).1 468 22) = 3 → (p_X9_lay v1 1 v6 (u_X9_readUnit_h7_1 N v1 v2 v3 v4 v5 v6 σ) ∧ q_X9_readUnit N n 9 v1 v2 v3 v4 v5 v6 (u_X9_readUnit_h7_3 N v1 v2 v3 v4 v5 v6 σ))) ∧ (((u_X9_readUnit_h7_1 N v1 v2 v3 v4 v5 v6 σ).1 468 22) = 3 → (p_X9_lay v1 1 ((u_X9_readUnit_h7_1 N v1 v2 v3 v4 v5 v6 σ).1 468 23) (u_X9_readUnit_h7_1 N v1 v2 v3 v4 v5 v6 σ) ∧ q_X9_readUnit N n 9 v1 v2 v3 v4 v5 v6 (u_X9_readUnit_h7_5 N v1 v2 v3 v4 v5 v6 σ))))) ∧ (((u_X9_readUnit_h7_1 N v1 v2 v3 v4 v5 v6 σ).1 468 22) = 3 → ((¬ ((u_X9_readUnit_h7_1 N v1 v2 v3 v4 v5 v6 σ).1 468 22) = 3 → (p_X9_lay v1 0 v6 (u_X9_readUnit_h7_1 N v1 v2 v3 v4 v5 v6 σ) ∧ q_X9_readUnit N n 9 v1 v2 v3 v4 v5 v6 (u_X9_readUnit_h7_7 N v1 v2 v3 v4 v5 v6 σ))) ∧ (((u_X9_readUnit_h7_1 N v1 v2 v3 v4 v5 v6 σ).1 468 22) = 3 → (p_X9_lay v1 0 ((u_X9_readUnit_h7_1 N v1 v2 v3 v4 v5 v6 σ).1 468 23) (u_X9_readUnit_h7_1 N v1 v2 v3 v4 v5 v6 σ) ∧ q_X9_readUnit N n 9 v1 v2 v3 v4 v5 v6 (u_X9_readUnit_h7_9 N v1 v2 v3 v4 v5 v6 σ))))))) ∧ (¬ v4 = 0 → (p_X9_scan N (u_X9_readUnit_h7_1 N v1 v2 v3 v4 v5 v6 σ) ∧ (p_X9_push 105 v5 0 (u_X9_readUnit_h7_10 N v1 v2 v3 v4 v5 v6 σ) ∧ q_X9_readUnit N n 9 v1 v2 v3 v4 v5 v6 (u_X9_readUnit_h7_13 N v1 v2 v3 v4 v5 v6 σ)))))) ∧ (¬ v3 = 0 → q_X9_readUnit N n 8 v1 v2 v3 v4 v5 v6 (u_X9_readUnit_h7_1 N v1 v2 v3 v4 v5 v6 σ))))))
  | n + 1, 8, v1, v2, v3, v4, v5, v6, σ => (v2 = 0 → (p_X9_push 7 0 0 σ ∧ ((v2 = 0 → q_X9_readUnit N n 9 v1 v2 v3 v4 v5 v6 (u_X9_readUnit_h8_3 N v1 v2 v3 v4 v5 v6 σ)) ∧ (¬ v2 = 0 → q_X9_readUnit N n 9 v1 v2 v3 v4 v5 v6 (u_X9_readUnit_h8_4 N v1 v2 v3 v4 v5 v6 σ))))) ∧ (¬ v2 = 0 → (p_X9_push 104 0 0 σ ∧ ((v2 = 0 → q_X9_readUnit N n 9 v1 v2 v3 v4 v5 v6 (u_X9_readUnit_h8_7 N v1 v2 v3 v4 v5 v6 σ)) ∧ (¬ v2 = 0 → q_X9_readUnit N n 9 v1 v2 v3 v4 v5 v6 (u_X9_readUnit_h8_8 N v1 v2 v3 v4 v5 v6 σ)))))
  | n + 1, 9, v1, v2, v3, v4, v5, v6, σ => p_X9_scan N σ ∧ (((u_X9_readUnit_h9_1 N v1 v2 v3 v4 v5 v6 σ).1 468 39) = 2 → p_X9_closeMinus v1 N (u_X9_readUnit_h9_1 N v1 v2 v3 v4 v5 v6 σ))
  | _ + 1, _, _, _, _, _, _, _, _ => False
set_option maxRecDepth 100000 in
set_option maxHeartbeats 1000000 in
theorem w_X9_readUnit {nx : Nat} (N : Nat) : ∀ n : Nat, (∀ (v1 : Int32) (v2 : Int32) (v3 : Int32) (v4 : Int32) (v5 : Int32) (v6 : Int32) (σ : zS), q_X9_readUnit N n 0 v1 v2 v3 v4 v5 v6 σ → zWp 6 zall nx 192 (fun v σ1 => v = none ∧ σ1 = l_X9_readUnit N n 0 v1 v2 v3 v4 v5 v6 σ) zall nx 45 [some (.inr (9, 57, 468)), some (.inl v1), some (.inl v2), some (.inl v3), none, none, none] [] σ) ∧ (∀ (v1 : Int32) (v2 : Int32) (v3 : Int32) (v4 : Int32) (v5 : Int32) (v6 : Int32) (σ : zS), q_X9_readUnit N n 1 v1 v2 v3 v4 v5 v6 σ → zWp 6 zall nx 192 (fun v σ1 => v = none ∧ σ1 = l_X9_readUnit N n 1 v1 v2 v3 v4 v5 v6 σ) zall nx 76 [some (.inr (9, 57, 468)), some (.inl v1), some (.inl v2), some (.inl v3), none, none, none] [] σ) ∧ (∀ (v1 : Int32) (v2 : Int32) (v3 : Int32) (v4 : Int32) (v5 : Int32) (v6 : Int32) (σ : zS), q_X9_readUnit N n 2 v1 v2 v3 v4 v5 v6 σ → zWp 6 zall nx 192 (fun v σ1 => v = none ∧ σ1 = l_X9_readUnit N n 2 v1 v2 v3 v4 v5 v6 σ) zall nx 99 [some (.inr (9, 57, 468)), some (.inl v1), some (.inl v2), some (.inl v3), none, none, none] [] σ) ∧ (∀ (v1 : Int32) (v2 : Int32) (v3 : Int32) (v4 : Int32) (v5 : Int32) (v6 : Int32) (σ : zS), q_X9_readUnit N n 3 v1 v2 v3 v4 v5 v6 σ → zWp 6 zall nx 192 (fun v σ1 => v = none ∧ σ1 = l_X9_readUnit N n 3 v1 v2 v3 v4 v5 v6 σ) zall nx 117 [some (.inr (9, 57, 468)), some (.inl v1), some (.inl v2), some (.inl v3), none, none, none] [] σ) ∧ (∀ (v1 : Int32) (v2 : Int32) (v3 : Int32) (v4 : Int32) (v5 : Int32) (v6 : Int32) (σ : zS), q_X9_readUnit N n 4 v1 v2 v3 v4 v5 v6 σ → zWp 6 zall nx 192 (fun v σ1 => v = none ∧ σ1 = l_X9_readUnit N n 4 v1 v2 v3 v4 v5 v6 σ) zall nx 160 [some (.inr (9, 57, 468)), some (.inl v1), some (.inl v2), some (.inl v3), some (.inl v4), some (.inl v5), none] [] σ) ∧ (∀ (v1 : Int32) (v2 : Int32) (v3 : Int32) (v4 : Int32) (v5 : Int32) (v6 : Int32) (σ : zS), q_X9_readUnit N n 5 v1 v2 v3 v4 v5 v6 σ → zWp 6 zall nx 192 (fun v σ1 => v = none ∧ σ1 = l_X9_readUnit N n 5 v1 v2 v3 v4 v5 v6 σ) zall nx 185 [some (.inr (9, 57, 468)), some (.inl v1), some (.inl v2), some (.inl v3), some (.inl v4), some (.inl v5), some (.inl v6)] [] σ) ∧ (∀ (v1 : Int32) (v2 : Int32) (v3 : Int32) (v4 : Int32) (v5 : Int32) (v6 : Int32) (σ : zS), q_X9_readUnit N n 6 v1 v2 v3 v4 v5 v6 σ → zWp 6 zall nx 192 (fun v σ1 => v = none ∧ σ1 = l_X9_readUnit N n 6 v1 v2 v3 v4 v5 v6 σ) zall nx 212 [some (.inr (9, 57, 468)), some (.inl v1), some (.inl v2), some (.inl v3), some (.inl v4), some (.inl v5), some (.inl v6)] [] σ) ∧ (∀ (v1 : Int32) (v2 : Int32) (v3 : Int32) (v4 : Int32) (v5 : Int32) (v6 : Int32) (σ : zS), q_X9_readUnit N n 7 v1 v2 v3 v4 v5 v6 σ → zWp 6 zall nx 192 (fun v σ1 => v = none ∧ σ1 = l_X9_readUnit N n 7 v1 v2 v3 v4 v5 v6 σ) zall nx 217 [some (.inr (9, 57, 468)), some (.inl v1), some (.inl v2), some (.inl v3), some (.inl v4), some (.inl v5), some (.inl v6)] [] σ) ∧ (∀ (v1 : Int32) (v2 : Int32) (v3 : Int32) (v4 : Int32) (v5 : Int32) (v6 : Int32) (σ : zS), q_X9_readUnit N n 8 v1 v2 v3 v4 v5 v6 σ → zWp 6 zall nx 192 (fun v σ1 => v = none ∧ σ1 = l_X9_readUnit N n 8 v1 v2 v3 v4 v5 v6 σ) zall nx 243 [some (.inr (9, 57, 468)), some (.inl v1), some (.inl v2), some (.inl v3), some (.inl v4), some (.inl v5), some (.inl v6)] [] σ) ∧ (∀ (v1 : Int32) (v2 : Int32) (v3 : Int32) (v4 : Int32) (v5 : Int32) (v6 : Int32) (σ : zS), q_X9_readUnit N n 9 v1 v2 v3 v4 v5 v6 σ → zWp 6 zall nx 192 (fun v σ1 => v = none ∧ σ1 = l_X9_readUnit N n 9 v1 v2 v3 v4 v5 v6 σ) zall nx 362 [some (.inr (9, 57, 468)), some (.inl v1), some (.inl v2), some (.inl v3), some (.inl v4), some (.inl v5), some (.inl v6)] [] σ) := by
  intro n
  induction n with
  | zero => exact ⟨fun _ _ _ _ _ _ _ h => h.elim, fun _ _ _ _ _ _ _ h => h.elim, fun _ _ _ _ _ _ _ h => h.elim, fun _ _ _ _ _ _ _ h => h.elim, fun _ _ _ _ _ _ _ h => h.elim, fun _ _ _ _ _ _ _ h => h.elim, fun _ _ _ _ _ _ _ h => h.elim, fun _ _ _ _ _ _ _ h => h.elim, fun _ _ _ _ _ _ _ h => h.elim, fun _ _ _ _ _ _ _ h => h.elim⟩
  | succ n ih =>
    refine ⟨?_, ?_, ?_, ?_, ?_, ?_, ?_, ?_, ?_, ?_⟩
    · intro v1 v2 v3 v4 v5 v6 σ hp
      rw [q_X9_readUnit] at hp
      refine zvc_sound (cd := kX9_readUnit) (cs := [45, 76, 99, 117, 160, 185, 212, 217, 243, 362]) rfl okX9_readUnit 1000 _ _ 45 (zseek kX9_readUnit 45) _ _ _ zseek_sub ?_
      refine And.intro (fun (h1 : ¬ v2 = 0) => ?_) (fun (h1 : v2 = 0) => ?_)
      · refine zWp.use (ih.2.1 v1 v2 v3 0 0 0 σ (hp.1 h1)) (And.intro rfl (And.intro rfl (And.intro rfl (And.intro rfl trivial)))) (fun vy σy hy => ?_)
        rw [l_X9_readUnit, if_neg h1]; exact hy
      · refine And.intro (fun (h2 : ¬ v3 = 0) => ?_) (fun (h2 : v3 = 0) => ?_)
        · refine zWp.use (ih.2.1 v1 v2 v3 0 0 0 σ ((hp.2 h1).1 h2)) (And.intro rfl (And.intro rfl (And.intro rfl (And.intro rfl trivial)))) (fun vy σy hy => ?_)
          rw [l_X9_readUnit, if_pos h1, if_neg h2]; exact hy
        · refine zCl.use (c_X9_isName σ) (Nat.le_of_ble_eq_true rfl) ?_
          rintro _ σz ⟨rfl, hz⟩
          subst σz
          refine And.intro (fun (h3 : ¬ (f_X9_isName σ) = 0) => ?_) (fun (h3 : (f_X9_isName σ) = 0) => ?_)
          · refine zWp.use (ih.2.1 v1 v2 v3 0 0 0 σ (((hp.2 h1).2 h2).1 h3)) (And.intro rfl (And.intro rfl (And.intro rfl (And.intro rfl trivial)))) (fun vy σy hy => ?_)
            rw [l_X9_readUnit, if_pos h1, if_pos h2, if_neg h3]; exact hy
          · refine And.intro (fun (h4 : (σ.1 468 22) = 3) => ?_) (fun (h4 : ¬ (σ.1 468 22) = 3) => ?_)
            · refine zWp.use (ih.2.1 v1 v2 v3 0 0 0 σ ((((hp.2 h1).2 h2).2 h3).1 h4)) (And.intro rfl (And.intro rfl (And.intro rfl (And.intro rfl trivial)))) (fun vy σy hy => ?_)
              rw [l_X9_readUnit, if_pos h1, if_pos h2, if_pos h3, if_pos h4]; exact hy
            · refine zCl.use (c_X9_fail 1 σ) (Nat.le_of_ble_eq_true rfl) ?_
              rintro _ σz ⟨rfl, hz⟩
              subst σz
              refine zWp.use (ih.2.2.1 v1 v2 v3 0 0 0 (u_X9_readUnit_h0_1 N v1 v2 v3 v4 v5 v6 σ) ((((hp.2 h1).2 h2).2 h3).2 h4)) (And.intro rfl (And.intro rfl (And.intro rfl (And.intro rfl trivial)))) (fun vy σy hy => ?_)
              rw [l_X9_readUnit, if_pos h1, if_pos h2, if_pos h3, if_neg h4]; exact hy
    · intro v1 v2 v3 v4 v5 v6 σ hp
      rw [q_X9_readUnit] at hp
      refine zvc_sound (cd := kX9_readUnit) (cs := [45, 76, 99, 117, 160, 185, 212, 217, 243, 362]) rfl okX9_readUnit 1000 _ _ 76 (zseek kX9_readUnit 76) _ _ _ zseek_sub ?_
      refine And.intro (fun (h1 : ¬ (σ.1 468 22) = 3) => ?_) (fun (h1 : (σ.1 468 22) = 3) => ?_)
      · refine zWp.use (ih.2.2.1 v1 v2 v3 0 0 0 σ (hp.1 h1)) (And.intro rfl (And.intro rfl (And.intro rfl (And.intro rfl trivial)))) (fun vy σy hy => ?_)
        rw [l_X9_readUnit, if_neg h1]; exact hy
      · refine And.intro (fun (h2 : (σ.1 468 23) ≤ 9999) => ?_) (fun (h2 : ¬ (σ.1 468 23) ≤ 9999) => ?_)
        · refine zWp.use (ih.2.2.1 v1 v2 v3 0 0 0 σ ((hp.2 h1).1 h2)) (And.intro rfl (And.intro rfl (And.intro rfl (And.intro rfl trivial)))) (fun vy σy hy => ?_)
          rw [l_X9_readUnit, if_pos h1, if_pos h2]; exact hy
        · refine zCl.use (c_X9_fail 2 σ) (Nat.le_of_ble_eq_true rfl) ?_
          rintro _ σz ⟨rfl, hz⟩
          subst σz
          refine zWp.use (ih.2.2.1 v1 v2 v3 0 0 0 (u_X9_readUnit_h1_1 N v1 v2 v3 v4 v5 v6 σ) ((hp.2 h1).2 h2)) (And.intro rfl (And.intro rfl (And.intro rfl (And.intro rfl trivial)))) (fun vy σy hy => ?_)
          rw [l_X9_readUnit, if_pos h1, if_neg h2]; exact hy
    · intro v1 v2 v3 v4 v5 v6 σ hp
      rw [q_X9_readUnit] at hp
      refine zvc_sound (cd := kX9_readUnit) (cs := [45, 76, 99, 117, 160, 185, 212, 217, 243, 362]) rfl okX9_readUnit 1000 _ _ 99 (zseek kX9_readUnit 99) _ _ _ zseek_sub ?_
      refine zCl.use (c_X9_isName σ) (Nat.le_of_ble_eq_true rfl) ?_
      rintro _ σz ⟨rfl, hz⟩
      subst σz
      refine And.intro (fun (h1 : (f_X9_isName σ) = 0) => ?_) (fun (h1 : ¬ (f_X9_isName σ) = 0) => ?_)
      · refine zWp.use (ih.2.2.2.1 v1 v2 v3 0 0 0 σ (hp.1 h1)) (And.intro rfl (And.intro rfl (And.intro rfl (And.intro rfl trivial)))) (fun vy σy hy => ?_)
        rw [l_X9_readUnit, if_pos h1]; exact hy
      · refine zCl.use (c_X9_isOpenBehind N σ (hp.2 h1).1) (Nat.le_of_ble_eq_true rfl) ?_
        rintro _ σz ⟨rfl, hz⟩
        subst σz
        refine And.intro (fun (h2 : (f_X9_isOpenBehind N σ) = 0) => ?_) (fun (h2 : ¬ (f_X9_isOpenBehind N σ) = 0) => ?_)
        · refine zWp.use (ih.2.2.2.1 v1 v2 v3 0 0 0 σ ((hp.2 h1).2.1 h2)) (And.intro rfl (And.intro rfl (And.intro rfl (And.intro rfl trivial)))) (fun vy σy hy => ?_)
          rw [l_X9_readUnit, if_neg h1, if_pos h2]; exact hy
        · refine And.intro (fun (z : (1 : Int32) = 0) => absurd z (by decide)) (fun _ => ?_)
          refine And.intro ((hp.2 h1).2.2 h2).1 ?_
          refine zCl.use (c_X9_functionHere (σ.1 476 (v1).toNatClampNeg) N σ ((hp.2 h1).2.2 h2).2.1) (Nat.le_of_ble_eq_true rfl) ?_
          rintro _ σz ⟨rfl, hz⟩
          subst σz
          refine zCl.use (c_X9_isName σ) (Nat.le_of_ble_eq_true rfl) ?_
          rintro _ σz ⟨rfl, hz⟩
          subst σz
          refine And.intro (fun (h3 : (f_X9_isName σ) = 0) => ?_) (fun (h3 : ¬ (f_X9_isName σ) = 0) => ?_)
          · refine zWp.use (ih.2.2.2.2.1 v1 v2 v3 1 (f_X9_functionHere (σ.1 476 (v1).toNatClampNeg) N σ) 0 σ (((hp.2 h1).2.2 h2).2.2.1 h3)) (And.intro rfl (And.intro rfl (And.intro rfl (And.intro rfl (And.intro rfl (And.intro rfl trivial)))))) (fun vy σy hy => ?_)
            rw [l_X9_readUnit, if_neg h1, if_neg h2, if_pos h3]; exact hy
          · refine And.intro (fun _ => ?_) (fun (z : (1 : Int32) = 0) => absurd z (by decide))
            refine zWp.use (ih.2.2.2.2.1 v1 v2 v3 1 (f_X9_functionHere (σ.1 476 (v1).toNatClampNeg) N σ) 0 σ (((hp.2 h1).2.2 h2).2.2.2 h3)) (And.intro rfl (And.intro rfl (And.intro rfl (And.intro rfl (And.intro rfl (And.intro rfl trivial)))))) (fun vy σy hy => ?_)
            rw [l_X9_readUnit, if_neg h1, if_neg h2, if_neg h3]; exact hy
    · intro v1 v2 v3 v4 v5 v6 σ hp
      rw [q_X9_readUnit] at hp
      refine zvc_sound (cd := kX9_readUnit) (cs := [45, 76, 99, 117, 160, 185, 212, 217, 243, 362]) rfl okX9_readUnit 1000 _ _ 117 (zseek kX9_readUnit 117) _ _ _ zseek_sub ?_
      refine And.intro (fun _ => ?_) (fun (z : ¬ (0 : Int32) = 0) => absurd z (by decide))
      refine zCl.use (c_X9_isName σ) (Nat.le_of_ble_eq_true rfl) ?_
      rintro _ σz ⟨rfl, hz⟩
      subst σz
      refine And.intro (fun (h1 : (f_X9_isName σ) = 0) => ?_) (fun (h1 : ¬ (f_X9_isName σ) = 0) => ?_)
      · refine zWp.use (ih.2.2.2.2.1 v1 v2 v3 0 (-1) 0 σ (hp.1 h1)) (And.intro rfl (And.intro rfl (And.intro rfl (And.intro rfl (And.intro rfl (And.intro rfl trivial)))))) (fun vy σy hy => ?_)
        rw [l_X9_readUnit, if_pos h1]; exact hy
      · refine And.intro (fun (z : ¬ (0 : Int32) = 0) => absurd z (by decide)) (fun _ => ?_)
        refine zCl.use (c_X9_parameterHere N σ (hp.2 h1).1) (Nat.le_of_ble_eq_true rfl) ?_
        rintro _ σz ⟨rfl, hz⟩
        subst σz
        refine zCl.use (c_X9_isName σ) (Nat.le_of_ble_eq_true rfl) ?_
        rintro _ σz ⟨rfl, hz⟩
        subst σz
        refine And.intro (fun (h2 : (f_X9_isName σ) = 0) => ?_) (fun (h2 : ¬ (f_X9_isName σ) = 0) => ?_)
        · refine zWp.use (ih.2.2.2.2.2.1 v1 v2 v3 0 (-1) (f_X9_parameterHere N σ) σ ((hp.2 h1).2.1 h2)) (And.intro rfl (And.intro rfl (And.intro rfl (And.intro rfl (And.intro rfl (And.intro rfl (And.intro rfl trivial))))))) (fun vy σy hy => ?_)
          rw [l_X9_readUnit, if_neg h1, if_pos h2]; exact hy
        · refine And.intro (fun (z : (0 : Int32) ≤ (-1)) => absurd z (by decide)) (fun _ => ?_)
          refine And.intro (fun (h3 : 0 ≤ (f_X9_parameterHere N σ)) => ?_) (fun (h3 : ¬ 0 ≤ (f_X9_parameterHere N σ)) => ?_)
          · refine zWp.use (ih.2.2.2.2.2.1 v1 v2 v3 0 (-1) (f_X9_parameterHere N σ) σ (((hp.2 h1).2.2 h2).1 h3)) (And.intro rfl (And.intro rfl (And.intro rfl (And.intro rfl (And.intro rfl (And.intro rfl (And.intro rfl trivial))))))) (fun vy σy hy => ?_)
            rw [l_X9_readUnit, if_neg h1, if_neg h2, if_pos h3]; exact hy
          · refine zCl.use (c_X9_fail 4 σ) (Nat.le_of_ble_eq_true rfl) ?_
            rintro _ σz ⟨rfl, hz⟩
            subst σz
            refine zWp.use (ih.2.2.2.2.2.1 v1 v2 v3 0 (-1) (f_X9_parameterHere N σ) (u_X9_readUnit_h3_1 N v1 v2 v3 v4 v5 v6 σ) (((hp.2 h1).2.2 h2).2 h3)) (And.intro rfl (And.intro rfl (And.intro rfl (And.intro rfl (And.intro rfl (And.intro rfl (And.intro rfl trivial))))))) (fun vy σy hy => ?_)
            rw [l_X9_readUnit, if_neg h1, if_neg h2, if_neg h3]; exact hy
    · intro v1 v2 v3 v4 v5 v6 σ hp
      rw [q_X9_readUnit] at hp
      refine zvc_sound (cd := kX9_readUnit) (cs := [45, 76, 99, 117, 160, 185, 212, 217, 243, 362]) rfl okX9_readUnit 1000 _ _ 160 (zseek kX9_readUnit 160) _ _ _ zseek_sub ?_
      refine zCl.use (c_X9_isName σ) (Nat.le_of_ble_eq_true rfl) ?_
      rintro _ σz ⟨rfl, hz⟩
      subst σz
      refine And.intro (fun (h1 : (f_X9_isName σ) = 0) => ?_) (fun (h1 : ¬ (f_X9_isName σ) = 0) => ?_)
      · refine zWp.use (ih.2.2.2.2.2.1 v1 v2 v3 v4 v5 (-1) σ (hp.1 h1)) (And.intro rfl (And.intro rfl (And.intro rfl (And.intro rfl (And.intro rfl (And.intro rfl (And.intro rfl trivial))))))) (fun vy σy hy => ?_)
        rw [l_X9_readUnit, if_pos h1]; exact hy
      · refine And.intro (fun (h2 : 0 ≤ v5) => ?_) (fun (h2 : ¬ 0 ≤ v5) => ?_)
        · refine zWp.use (ih.2.2.2.2.2.1 v1 v2 v3 v4 v5 (-1) σ ((hp.2 h1).1 h2)) (And.intro rfl (And.intro rfl (And.intro rfl (And.intro rfl (And.intro rfl (And.intro rfl (And.intro rfl trivial))))))) (fun vy σy hy => ?_)
          rw [l_X9_readUnit, if_neg h1, if_pos h2]; exact hy
        · refine And.intro (fun (z : (0 : Int32) ≤ (-1)) => absurd z (by decide)) (fun _ => ?_)
          refine zCl.use (c_X9_fail 4 σ) (Nat.le_of_ble_eq_true rfl) ?_
          rintro _ σz ⟨rfl, hz⟩
          subst σz
          refine zWp.use (ih.2.2.2.2.2.1 v1 v2 v3 v4 v5 (-1) (u_X9_readUnit_h4_1 N v1 v2 v3 v4 v5 v6 σ) ((hp.2 h1).2 h2)) (And.intro rfl (And.intro rfl (And.intro rfl (And.intro rfl (And.intro rfl (And.intro rfl (And.intro rfl trivial))))))) (fun vy σy hy => ?_)
          rw [l_X9_readUnit, if_neg h1, if_neg h2]; exact hy
    · intro v1 v2 v3 v4 v5 v6 σ hp
      rw [q_X9_readUnit] at hp
      refine zvc_sound (cd := kX9_readUnit) (cs := [45, 76, 99, 117, 160, 185, 212, 217, 243, 362]) rfl okX9_readUnit 1000 _ _ 185 (zseek kX9_readUnit 185) _ _ _ zseek_sub ?_
      refine And.intro hp.1 ?_
      refine And.intro (fun (h1 : (σ.1 478 (v1).toNatClampNeg) = 80) => ?_) (fun (h1 : ¬ (σ.1 478 (v1).toNatClampNeg) = 80) => ?_)
      · refine zWp.use (ih.2.2.2.2.2.2.1 v1 v2 v3 v4 v5 v6 σ (hp.2.1 h1)) (And.intro rfl (And.intro rfl (And.intro rfl (And.intro rfl (And.intro rfl (And.intro rfl (And.intro rfl trivial))))))) (fun vy σy hy => ?_)
        rw [l_X9_readUnit, if_pos h1]; exact hy
      · refine And.intro (fun (h2 : 5 < (σ.1 468 38)) => ?_) (fun (h2 : ¬ 5 < (σ.1 468 38)) => ?_)
        · refine zWp.use (ih.2.2.2.2.2.2.1 v1 v2 v3 v4 v5 v6 σ ((hp.2.2 h1).1 h2)) (And.intro rfl (And.intro rfl (And.intro rfl (And.intro rfl (And.intro rfl (And.intro rfl (And.intro rfl trivial))))))) (fun vy σy hy => ?_)
          rw [l_X9_readUnit, if_neg h1, if_pos h2]; exact hy
        · refine zCl.use (c_X9_isTooMany v1 σ ((hp.2.2 h1).2 h2).1) (Nat.le_of_ble_eq_true rfl) ?_
          rintro _ σz ⟨rfl, hz⟩
          subst σz
          refine And.intro (fun (h3 : (f_X9_isTooMany v1 σ) = 0) => ?_) (fun (h3 : ¬ (f_X9_isTooMany v1 σ) = 0) => ?_)
          · refine zWp.use (ih.2.2.2.2.2.2.2.1 v1 v2 v3 v4 v5 v6 σ (((hp.2.2 h1).2 h2).2.1 h3)) (And.intro rfl (And.intro rfl (And.intro rfl (And.intro rfl (And.intro rfl (And.intro rfl (And.intro rfl trivial))))))) (fun vy σy hy => ?_)
            rw [l_X9_readUnit, if_neg h1, if_neg h2, if_pos h3]; exact hy
          · refine zWp.use (ih.2.2.2.2.2.2.1 v1 v2 v3 v4 v5 v6 σ (((hp.2.2 h1).2 h2).2.2 h3)) (And.intro rfl (And.intro rfl (And.intro rfl (And.intro rfl (And.intro rfl (And.intro rfl (And.intro rfl trivial))))))) (fun vy σy hy => ?_)
            rw [l_X9_readUnit, if_neg h1, if_neg h2, if_neg h3]; exact hy
    · intro v1 v2 v3 v4 v5 v6 σ hp
      rw [q_X9_readUnit] at hp
      refine zvc_sound (cd := kX9_readUnit) (cs := [45, 76, 99, 117, 160, 185, 212, 217, 243, 362]) rfl okX9_readUnit 1000 _ _ 212 (zseek kX9_readUnit 212) _ _ _ zseek_sub ?_
      refine zCl.use (c_X9_fail 5 σ) (Nat.le_of_ble_eq_true rfl) ?_
      rintro _ σz ⟨rfl, hz⟩
      subst σz
      refine zWp.use (ih.2.2.2.2.2.2.2.1 v1 v2 v3 v4 v5 v6 (u_X9_readUnit_h6_1 N v1 v2 v3 v4 v5 v6 σ) hp) (And.intro rfl (And.intro rfl (And.intro rfl (And.intro rfl (And.intro rfl (And.intro rfl (And.intro rfl trivial))))))) (fun vy σy hy => ?_)
      rw [l_X9_readUnit]; exact hy
    · intro v1 v2 v3 v4 v5 v6 σ hp
      rw [q_X9_readUnit] at hp
      refine zvc_sound (cd := kX9_readUnit) (cs := [45, 76, 99, 117, 160, 185, 212, 217, 243, 362]) rfl okX9_readUnit 1000 _ _ 217 (zseek kX9_readUnit 217) _ _ _ zseek_sub ?_
      refine And.intro (fun (h1 : (σ.1 468 25) ≤ 0) => ?_) (fun (h1 : ¬ (σ.1 468 25) ≤ 0) => ?_)
      · refine And.intro (hp h1).1 ?_
        refine And.intro (hp h1).1 ?_
        refine And.intro (fun (h2 : ¬ v2 = 0) => ?_) (fun (h2 : v2 = 0) => ?_)
        · refine zWp.use (ih.2.2.2.2.2.2.2.2.1 v1 v2 v3 v4 v5 v6 (u_X9_readUnit_h7_1 N v1 v2 v3 v4 v5 v6 σ) ((hp h1).2.1 h2)) (And.intro rfl (And.intro rfl (And.intro rfl (And.intro rfl (And.intro rfl (And.intro rfl (And.intro rfl trivial))))))) (fun vy σy hy => ?_)
          rw [l_X9_readUnit, if_pos h1, if_neg h2]; exact hy
        · refine And.intro (fun (h3 : v3 = 0) => ?_) (fun (h3 : ¬ v3 = 0) => ?_)
          · refine And.intro (fun (h4 : v4 = 0) => ?_) (fun (h4 : ¬ v4 = 0) => ?_)
            · refine And.intro (fun (h5 : ¬ ((u_X9_readUnit_h7_1 N v1 v2 v3 v4 v5 v6 σ).1 468 22) = 3) => ?_) (fun (h5 : ((u_X9_readUnit_h7_1 N v1 v2 v3 v4 v5 v6 σ).1 468 22) = 3) => ?_)
              · refine And.intro (fun (h6 : ¬ ((u_X9_readUnit_h7_1 N v1 v2 v3 v4 v5 v6 σ).1 468 22) = 3) => ?_) (fun (h6 : ((u_X9_readUnit_h7_1 N v1 v2 v3 v4 v5 v6 σ).1 468 22) = 3) => ?_)
                · refine zCl.use (c_X9_lay v1 1 v6 (u_X9_readUnit_h7_1 N v1 v2 v3 v4 v5 v6 σ) ((((((hp h1).2.2 h2).1 h3).1 h4).1 h5).1 h6).1) (Nat.le_of_ble_eq_true rfl) ?_
                  rintro _ σz ⟨rfl, hz⟩
                  subst σz
                  refine zWp.use (ih.2.2.2.2.2.2.2.2.2 v1 v2 v3 v4 v5 v6 (u_X9_readUnit_h7_3 N v1 v2 v3 v4 v5 v6 σ) ((((((hp h1).2.2 h2).1 h3).1 h4).1 h5).1 h6).2) (And.intro rfl (And.intro rfl (And.intro rfl (And.intro rfl (And.intro rfl (And.intro rfl (And.intro rfl trivial))))))) (fun vy σy hy => ?_)
                  rw [l_X9_readUnit, if_pos h1, if_pos h2, if_pos h3, if_pos h4, if_neg h5, if_neg h6]; exact hy
                · refine zCl.use (c_X9_lay v1 1 ((u_X9_readUnit_h7_1 N v1 v2 v3 v4 v5 v6 σ).1 468 23) (u_X9_readUnit_h7_1 N v1 v2 v3 v4 v5 v6 σ) ((((((hp h1).2.2 h2).1 h3).1 h4).1 h5).2 h6).1) (Nat.le_of_ble_eq_true rfl) ?_
                  rintro _ σz ⟨rfl, hz⟩
                  subst σz
                  refine zWp.use (ih.2.2.2.2.2.2.2.2.2 v1 v2 v3 v4 v5 v6 (u_X9_readUnit_h7_5 N v1 v2 v3 v4 v5 v6 σ) ((((((hp h1).2.2 h2).1 h3).1 h4).1 h5).2 h6).2) (And.intro rfl (And.intro rfl (And.intro rfl (And.intro rfl (And.intro rfl (And.intro rfl (And.intro rfl trivial))))))) (fun vy σy hy => ?_)
                  rw [l_X9_readUnit, if_pos h1, if_pos h2, if_pos h3, if_pos h4, if_neg h5, if_pos h6]; exact hy
              · refine And.intro (fun (h7 : ¬ ((u_X9_readUnit_h7_1 N v1 v2 v3 v4 v5 v6 σ).1 468 22) = 3) => ?_) (fun (h7 : ((u_X9_readUnit_h7_1 N v1 v2 v3 v4 v5 v6 σ).1 468 22) = 3) => ?_)
                · refine zCl.use (c_X9_lay v1 0 v6 (u_X9_readUnit_h7_1 N v1 v2 v3 v4 v5 v6 σ) ((((((hp h1).2.2 h2).1 h3).1 h4).2 h5).1 h7).1) (Nat.le_of_ble_eq_true rfl) ?_
                  rintro _ σz ⟨rfl, hz⟩
                  subst σz
                  refine zWp.use (ih.2.2.2.2.2.2.2.2.2 v1 v2 v3 v4 v5 v6 (u_X9_readUnit_h7_7 N v1 v2 v3 v4 v5 v6 σ) ((((((hp h1).2.2 h2).1 h3).1 h4).2 h5).1 h7).2) (And.intro rfl (And.intro rfl (And.intro rfl (And.intro rfl (And.intro rfl (And.intro rfl (And.intro rfl trivial))))))) (fun vy σy hy => ?_)
                  rw [l_X9_readUnit, if_pos h1, if_pos h2, if_pos h3, if_pos h4, if_pos h5, if_neg h7]; exact hy
                · refine zCl.use (c_X9_lay v1 0 ((u_X9_readUnit_h7_1 N v1 v2 v3 v4 v5 v6 σ).1 468 23) (u_X9_readUnit_h7_1 N v1 v2 v3 v4 v5 v6 σ) ((((((hp h1).2.2 h2).1 h3).1 h4).2 h5).2 h7).1) (Nat.le_of_ble_eq_true rfl) ?_
                  rintro _ σz ⟨rfl, hz⟩
                  subst σz
                  refine zWp.use (ih.2.2.2.2.2.2.2.2.2 v1 v2 v3 v4 v5 v6 (u_X9_readUnit_h7_9 N v1 v2 v3 v4 v5 v6 σ) ((((((hp h1).2.2 h2).1 h3).1 h4).2 h5).2 h7).2) (And.intro rfl (And.intro rfl (And.intro rfl (And.intro rfl (And.intro rfl (And.intro rfl (And.intro rfl trivial))))))) (fun vy σy hy => ?_)
                  rw [l_X9_readUnit, if_pos h1, if_pos h2, if_pos h3, if_pos h4, if_pos h5, if_pos h7]; exact hy
            · refine zCl.use (c_X9_scan N (u_X9_readUnit_h7_1 N v1 v2 v3 v4 v5 v6 σ) ((((hp h1).2.2 h2).1 h3).2 h4).1) (Nat.le_of_ble_eq_true rfl) ?_
              rintro _ σz ⟨rfl, hz⟩
              subst σz
              refine zCl.use (c_X9_push 105 v5 0 (u_X9_readUnit_h7_10 N v1 v2 v3 v4 v5 v6 σ) ((((hp h1).2.2 h2).1 h3).2 h4).2.1) (Nat.le_of_ble_eq_true rfl) ?_
              rintro _ σz ⟨rfl, hz⟩
              subst σz
              refine zWp.use (ih.2.2.2.2.2.2.2.2.2 v1 v2 v3 v4 v5 v6 (u_X9_readUnit_h7_13 N v1 v2 v3 v4 v5 v6 σ) ((((hp h1).2.2 h2).1 h3).2 h4).2.2) (And.intro rfl (And.intro rfl (And.intro rfl (And.intro rfl (And.intro rfl (And.intro rfl (And.intro rfl trivial))))))) (fun vy σy hy => ?_)
              rw [l_X9_readUnit, if_pos h1, if_pos h2, if_pos h3, if_neg h4]; exact hy
          · refine zWp.use (ih.2.2.2.2.2.2.2.2.1 v1 v2 v3 v4 v5 v6 (u_X9_readUnit_h7_1 N v1 v2 v3 v4 v5 v6 σ) (((hp h1).2.2 h2).2 h3)) (And.intro rfl (And.intro rfl (And.intro rfl (And.intro rfl (And.intro rfl (And.intro rfl (And.intro rfl trivial))))))) (fun vy σy hy => ?_)
            rw [l_X9_readUnit, if_pos h1, if_pos h2, if_neg h3]; exact hy
      · exact And.intro rfl (And.intro rfl ⟨rfl, by rw [l_X9_readUnit, if_neg h1] <;> rfl⟩)
    · intro v1 v2 v3 v4 v5 v6 σ hp
      rw [q_X9_readUnit] at hp
      refine zvc_sound (cd := kX9_readUnit) (cs := [45, 76, 99, 117, 160, 185, 212, 217, 243, 362]) rfl okX9_readUnit 1000 _ _ 243 (zseek kX9_readUnit 243) _ _ _ zseek_sub ?_
      refine And.intro (fun (h1 : v2 = 0) => ?_) (fun (h1 : ¬ v2 = 0) => ?_)
      · refine zCl.use (c_X9_push 7 0 0 σ (hp.1 h1).1) (Nat.le_of_ble_eq_true rfl) ?_
        rintro _ σz ⟨rfl, hz⟩
        subst σz
        refine And.intro (fun (h2 : v2 = 0) => ?_) (fun (h2 : ¬ v2 = 0) => ?_)
        · refine zWp.use (ih.2.2.2.2.2.2.2.2.2 v1 v2 v3 v4 v5 v6 (u_X9_readUnit_h8_3 N v1 v2 v3 v4 v5 v6 σ) ((hp.1 h1).2.1 h2)) (And.intro rfl (And.intro rfl (And.intro rfl (And.intro rfl (And.intro rfl (And.intro rfl (And.intro rfl trivial))))))) (fun vy σy hy => ?_)
          rw [l_X9_readUnit, if_pos h1, if_pos h2]; exact hy
        · refine zWp.use (ih.2.2.2.2.2.2.2.2.2 v1 v2 v3 v4 v5 v6 (u_X9_readUnit_h8_4 N v1 v2 v3 v4 v5 v6 σ) ((hp.1 h1).2.2 h2)) (And.intro rfl (And.intro rfl (And.intro rfl (And.intro rfl (And.intro rfl (And.intro rfl (And.intro rfl trivial))))))) (fun vy σy hy => ?_)
          rw [l_X9_readUnit, if_pos h1, if_neg h2]; exact hy
      · refine zCl.use (c_X9_push 104 0 0 σ (hp.2 h1).1) (Nat.le_of_ble_eq_true rfl) ?_
        rintro _ σz ⟨rfl, hz⟩
        subst σz
        refine And.intro (fun (h3 : v2 = 0) => ?_) (fun (h3 : ¬ v2 = 0) => ?_)
        · refine zWp.use (ih.2.2.2.2.2.2.2.2.2 v1 v2 v3 v4 v5 v6 (u_X9_readUnit_h8_7 N v1 v2 v3 v4 v5 v6 σ) ((hp.2 h1).2.1 h3)) (And.intro rfl (And.intro rfl (And.intro rfl (And.intro rfl (And.intro rfl (And.intro rfl (And.intro rfl trivial))))))) (fun vy σy hy => ?_)
          rw [l_X9_readUnit, if_neg h1, if_pos h3]; exact hy
        · refine zWp.use (ih.2.2.2.2.2.2.2.2.2 v1 v2 v3 v4 v5 v6 (u_X9_readUnit_h8_8 N v1 v2 v3 v4 v5 v6 σ) ((hp.2 h1).2.2 h3)) (And.intro rfl (And.intro rfl (And.intro rfl (And.intro rfl (And.intro rfl (And.intro rfl (And.intro rfl trivial))))))) (fun vy σy hy => ?_)
          rw [l_X9_readUnit, if_neg h1, if_neg h3]; exact hy
    · intro v1 v2 v3 v4 v5 v6 σ hp
      rw [q_X9_readUnit] at hp
      refine zvc_sound (cd := kX9_readUnit) (cs := [45, 76, 99, 117, 160, 185, 212, 217, 243, 362]) rfl okX9_readUnit 1000 _ _ 362 (zseek kX9_readUnit 362) _ _ _ zseek_sub ?_
      refine zCl.use (c_X9_scan N σ hp.1) (Nat.le_of_ble_eq_true rfl) ?_
      rintro _ σz ⟨rfl, hz⟩
      subst σz
      refine And.intro (fun (h1 : ¬ ((u_X9_readUnit_h9_1 N v1 v2 v3 v4 v5 v6 σ).1 468 39) = 2) => ?_) (fun (h1 : ((u_X9_readUnit_h9_1 N v1 v2 v3 v4 v5 v6 σ).1 468 39) = 2) => ?_)
      · exact And.intro rfl (And.intro rfl ⟨rfl, by rw [l_X9_readUnit, if_neg h1] <;> rfl⟩)
      · refine zCl.use (c_X9_closeMinus v1 N (u_X9_readUnit_h9_1 N v1 v2 v3 v4 v5 v6 σ) (hp.2 h1)) (Nat.le_of_ble_eq_true rfl) ?_
        rintro _ σz ⟨rfl, hz⟩
        subst σz
        exact And.intro rfl (And.intro rfl ⟨rfl, by rw [l_X9_readUnit, if_pos h1] <;> rfl⟩)
def u_X9_readUnit_1 (x1 : Int32) (N : Nat) (σ : zS) : zS := s_X9_endCall x1 N σ
def s_X9_readUnit (x1 : Int32) (N : Nat) (σ : zS) : zS := if (σ.1 468 39) = 0 then (if (f_X9_top σ) = 105 then (if (f_X9_isAt 41 σ) = 0 then (l_X9_readUnit N N 0 x1 (f_X9_isAt 40 σ) (f_X9_isAt 45 σ) 0 0 0 σ) else (u_X9_readUnit_1 x1 N σ)) else (l_X9_readUnit N N 0 x1 (f_X9_isAt 40 σ) (f_X9_isAt 45 σ) 0 0 0 σ)) else (l_X9_readUnit N N 0 x1 (f_X9_isAt 40 σ) (f_X9_isAt 45 σ) 0 0 0 σ)
def p_X9_readUnit (x1 : Int32) (N : Nat) (σ : zS) : Prop := p_X9_isAt 40 σ ∧ (p_X9_isAt 45 σ ∧ ((¬ (σ.1 468 39) = 0 → q_X9_readUnit N N 0 x1 (f_X9_isAt 40 σ) (f_X9_isAt 45 σ) 0 0 0 σ) ∧ ((σ.1 468 39) = 0 → (p_X9_top σ ∧ ((¬ (f_X9_top σ) = 105 → q_X9_readUnit N N 0 x1 (f_X9_isAt 40 σ) (f_X9_isAt 45 σ) 0 0 0 σ) ∧ ((f_X9_top σ) = 105 → (p_X9_isAt 41 σ ∧ (((f_X9_isAt 41 σ) = 0 → q_X9_readUnit N N 0 x1 (f_X9_isAt 40 σ) (f_X9_isAt 45 σ) 0 0 0 σ) ∧ (¬ (f_X9_isAt 41 σ) = 0 → p_X9_endCall x1 N σ)))))))))
set_option maxRecDepth 100000 in
set_option maxHeartbeats 1000000 in
theorem c_X9_readUnit {nx : Nat} (x1 : Int32) (N : Nat) (σ : zS) (hp : p_X9_readUnit x1 N σ) : zCl 6 zall nx zall nx 192 [.inr (9, 57, 468), .inl x1] σ (fun v σ1 => v = none ∧ σ1 = s_X9_readUnit x1 N σ) := by
  refine zmeth (cd := kX9_readUnit) [45, 76, 99, 117, 160, 185, 212, 217, 243, 362] 1000 (Nat.le_of_ble_eq_true rfl) rfl okX9_readUnit (Nat.le_refl _) (Nat.le_of_ble_eq_true rfl) ?_
  refine zCl.use (c_X9_isAt 40 σ hp.1) (Nat.le_of_ble_eq_true rfl) ?_
  rintro _ σz ⟨rfl, hz⟩
  subst σz
  refine zCl.use (c_X9_isAt 45 σ hp.2.1) (Nat.le_of_ble_eq_true rfl) ?_
  rintro _ σz ⟨rfl, hz⟩
  subst σz
  refine And.intro (fun (h1 : ¬ (σ.1 468 39) = 0) => ?_) (fun (h1 : (σ.1 468 39) = 0) => ?_)
  · refine zWp.use ((w_X9_readUnit N N).1 x1 (f_X9_isAt 40 σ) (f_X9_isAt 45 σ) 0 0 0 σ (hp.2.2.1 h1)) (And.intro rfl (And.intro rfl (And.intro rfl (And.intro rfl trivial)))) (fun vy σy hy => ?_)
    rw [s_X9_readUnit, if_neg h1]; exact hy
  · refine zCl.use (c_X9_top σ (hp.2.2.2 h1).1) (Nat.le_of_ble_eq_true rfl) ?_
    rintro _ σz ⟨rfl, hz⟩
    subst σz
    refine And.intro (fun (h2 : ¬ (f_X9_top σ) = 105) => ?_) (fun (h2 : (f_X9_top σ) = 105) => ?_)
    · refine zWp.use ((w_X9_readUnit N N).1 x1 (f_X9_isAt 40 σ) (f_X9_isAt 45 σ) 0 0 0 σ ((hp.2.2.2 h1).2.1 h2)) (And.intro rfl (And.intro rfl (And.intro rfl (And.intro rfl trivial)))) (fun vy σy hy => ?_)
      rw [s_X9_readUnit, if_pos h1, if_neg h2]; exact hy
    · refine zCl.use (c_X9_isAt 41 σ ((hp.2.2.2 h1).2.2 h2).1) (Nat.le_of_ble_eq_true rfl) ?_
      rintro _ σz ⟨rfl, hz⟩
      subst σz
      refine And.intro (fun (h3 : (f_X9_isAt 41 σ) = 0) => ?_) (fun (h3 : ¬ (f_X9_isAt 41 σ) = 0) => ?_)
      · refine zWp.use ((w_X9_readUnit N N).1 x1 (f_X9_isAt 40 σ) (f_X9_isAt 45 σ) 0 0 0 σ (((hp.2.2.2 h1).2.2 h2).2.1 h3)) (And.intro rfl (And.intro rfl (And.intro rfl (And.intro rfl trivial)))) (fun vy σy hy => ?_)
        rw [s_X9_readUnit, if_pos h1, if_pos h2, if_pos h3]; exact hy
      · refine zCl.use (c_X9_endCall x1 N σ (((hp.2.2.2 h1).2.2 h2).2.2 h3)) (Nat.le_of_ble_eq_true rfl) ?_
        rintro _ σz ⟨rfl, hz⟩
        subst σz
        exact And.intro rfl (And.intro rfl ⟨rfl, by rw [s_X9_readUnit, if_pos h1, if_pos h2, if_neg h3] <;> rfl⟩)
def u_X9_endSum_1 (x1 : Int32) (N : Nat) (σ : zS) : zS := s_X9_goAgainst N σ
def u_X9_endSum_2 (x1 : Int32) (N : Nat) (σ : zS) : zS := s_X9_goThen x1 N σ
def u_X9_endSum_3 (x1 : Int32) (N : Nat) (σ : zS) : zS := s_X9_goElse x1 N σ
def u_X9_endSum_4 (x1 : Int32) (N : Nat) (σ : zS) : zS := zuI σ 484 (((800 * x1) + (2 * (σ.1 490 ((σ.1 468 37) - 1).toNatClampNeg))) + 1).toNatClampNeg (σ.1 479 (x1).toNatClampNeg)
def u_X9_endSum_5 (x1 : Int32) (N : Nat) (σ : zS) : zS := zuI (u_X9_endSum_4 x1 N σ) 468 37 (((u_X9_endSum_4 x1 N σ).1 468 37) - 1)
def u_X9_endSum_6 (x1 : Int32) (N : Nat) (σ : zS) : zS := zuI (u_X9_endSum_5 x1 N σ) 468 38 (((u_X9_endSum_5 x1 N σ).1 468 38) - 1)
def u_X9_endSum_7 (x1 : Int32) (N : Nat) (σ : zS) : zS := s_X9_fail 1 σ
def u_X9_endSum_8 (x1 : Int32) (N : Nat) (σ : zS) : zS := s_X9_close x1 N σ
def u_X9_endSum_9 (x1 : Int32) (N : Nat) (σ : zS) : zS := s_X9_goInCall x1 N σ
def u_X9_endSum_10 (x1 : Int32) (N : Nat) (σ : zS) : zS := zuI σ 468 39 3
def s_X9_endSum (x1 : Int32) (N : Nat) (σ : zS) : zS := if (f_X9_top σ) = 100 then (u_X9_endSum_1 x1 N σ) else (if (f_X9_top σ) = 101 then (u_X9_endSum_2 x1 N σ) else (if (f_X9_top σ) = 102 then (u_X9_endSum_3 x1 N σ) else (if (f_X9_top σ) = 103 then (u_X9_endSum_6 x1 N σ) else (if (f_X9_top σ) = 104 then (if (f_X9_isAt 41 σ) = 0 then (u_X9_endSum_7 x1 N σ) else (u_X9_endSum_8 x1 N σ)) else (if (f_X9_top σ) = 105 then (u_X9_endSum_9 x1 N σ) else (u_X9_endSum_10 x1 N σ))))))
def p_X9_endSum (x1 : Int32) (N : Nat) (σ : zS) : Prop := p_X9_top σ ∧ (((f_X9_top σ) = 100 → p_X9_goAgainst N σ) ∧ (¬ (f_X9_top σ) = 100 → (((f_X9_top σ) = 101 → p_X9_goThen x1 N σ) ∧ (¬ (f_X9_top σ) = 101 → (((f_X9_top σ) = 102 → p_X9_goElse x1 N σ) ∧ (¬ (f_X9_top σ) = 102 → (((f_X9_top σ) = 103 → (vp_in ((σ.1 468 37) - 1) 200 ∧ (vp_in x1 2 ∧ vp_in (((800 * x1) + (2 * (σ.1 490 ((σ.1 468 37) - 1).toNatClampNeg))) + 1) 1600))) ∧ (¬ (f_X9_top σ) = 103 → (((f_X9_top σ) = 104 → (p_X9_isAt 41 σ ∧ (¬ (f_X9_isAt 41 σ) = 0 → p_X9_close x1 N σ))) ∧ (¬ (f_X9_top σ) = 104 → ((f_X9_top σ) = 105 → p_X9_goInCall x1 N σ)))))))))))
set_option maxRecDepth 100000 in
set_option maxHeartbeats 1000000 in
theorem c_X9_endSum {nx : Nat} (x1 : Int32) (N : Nat) (σ : zS) (hp : p_X9_endSum x1 N σ) : zCl 7 zall nx zall nx 199 [.inr (9, 57, 468), .inl x1] σ (fun v σ1 => v = none ∧ σ1 = s_X9_endSum x1 N σ) := by
  refine zmeth (cd := kX9_endSum) [] 1000 (Nat.le_of_ble_eq_true rfl) rfl okX9_endSum (Nat.le_refl _) (Nat.le_of_ble_eq_true rfl) ?_
  refine zCl.use (c_X9_top σ hp.1) (Nat.le_of_ble_eq_true rfl) ?_
  rintro _ σz ⟨rfl, hz⟩
  subst σz
  refine And.intro (fun (h1 : (f_X9_top σ) = 100) => ?_) (fun (h1 : ¬ (f_X9_top σ) = 100) => ?_)
  · refine zCl.use (c_X9_goAgainst N σ (hp.2.1 h1)) (Nat.le_of_ble_eq_true rfl) ?_
    rintro _ σz ⟨rfl, hz⟩
    subst σz
    exact And.intro rfl (And.intro rfl ⟨rfl, by rw [s_X9_endSum, if_pos h1] <;> rfl⟩)
  · refine And.intro (fun (h2 : (f_X9_top σ) = 101) => ?_) (fun (h2 : ¬ (f_X9_top σ) = 101) => ?_)
    · refine zCl.use (c_X9_goThen x1 N σ ((hp.2.2 h1).1 h2)) (Nat.le_of_ble_eq_true rfl) ?_
      rintro _ σz ⟨rfl, hz⟩
      subst σz
      exact And.intro rfl (And.intro rfl ⟨rfl, by rw [s_X9_endSum, if_neg h1, if_pos h2] <;> rfl⟩)
    · refine And.intro (fun (h3 : (f_X9_top σ) = 102) => ?_) (fun (h3 : ¬ (f_X9_top σ) = 102) => ?_)
      · refine zCl.use (c_X9_goElse x1 N σ (((hp.2.2 h1).2 h2).1 h3)) (Nat.le_of_ble_eq_true rfl) ?_
        rintro _ σz ⟨rfl, hz⟩
        subst σz
        exact And.intro rfl (And.intro rfl ⟨rfl, by rw [s_X9_endSum, if_neg h1, if_neg h2, if_pos h3] <;> rfl⟩)
      · refine And.intro (fun (h4 : (f_X9_top σ) = 103) => ?_) (fun (h4 : ¬ (f_X9_top σ) = 103) => ?_)
        · refine And.intro ((((hp.2.2 h1).2 h2).2 h3).1 h4).1 ?_
          refine And.intro ((((hp.2.2 h1).2 h2).2 h3).1 h4).2.1 ?_
          refine And.intro ((((hp.2.2 h1).2 h2).2 h3).1 h4).2.2 ?_
          exact And.intro rfl (And.intro rfl ⟨rfl, by rw [s_X9_endSum, if_neg h1, if_neg h2, if_neg h3, if_pos h4] <;> rfl⟩)
        · refine And.intro (fun (h5 : (f_X9_top σ) = 104) => ?_) (fun (h5 : ¬ (f_X9_top σ) = 104) => ?_)
          · refine zCl.use (c_X9_isAt 41 σ (((((hp.2.2 h1).2 h2).2 h3).2 h4).1 h5).1) (Nat.le_of_ble_eq_true rfl) ?_
            rintro _ σz ⟨rfl, hz⟩
            subst σz
            refine And.intro (fun (h6 : (f_X9_isAt 41 σ) = 0) => ?_) (fun (h6 : ¬ (f_X9_isAt 41 σ) = 0) => ?_)
            · refine zCl.use (c_X9_fail 1 σ) (Nat.le_of_ble_eq_true rfl) ?_
              rintro _ σz ⟨rfl, hz⟩
              subst σz
              exact And.intro rfl (And.intro rfl ⟨rfl, by rw [s_X9_endSum, if_neg h1, if_neg h2, if_neg h3, if_neg h4, if_pos h5, if_pos h6] <;> rfl⟩)
            · refine zCl.use (c_X9_close x1 N σ ((((((hp.2.2 h1).2 h2).2 h3).2 h4).1 h5).2 h6)) (Nat.le_of_ble_eq_true rfl) ?_
              rintro _ σz ⟨rfl, hz⟩
              subst σz
              exact And.intro rfl (And.intro rfl ⟨rfl, by rw [s_X9_endSum, if_neg h1, if_neg h2, if_neg h3, if_neg h4, if_pos h5, if_neg h6] <;> rfl⟩)
          · refine And.intro (fun (h7 : (f_X9_top σ) = 105) => ?_) (fun (h7 : ¬ (f_X9_top σ) = 105) => ?_)
            · refine zCl.use (c_X9_goInCall x1 N σ ((((((hp.2.2 h1).2 h2).2 h3).2 h4).2 h5) h7)) (Nat.le_of_ble_eq_true rfl) ?_
              rintro _ σz ⟨rfl, hz⟩
              subst σz
              exact And.intro rfl (And.intro rfl ⟨rfl, by rw [s_X9_endSum, if_neg h1, if_neg h2, if_neg h3, if_neg h4, if_neg h5, if_pos h7] <;> rfl⟩)
            · exact And.intro rfl (And.intro rfl ⟨rfl, by rw [s_X9_endSum, if_neg h1, if_neg h2, if_neg h3, if_neg h4, if_neg h5, if_neg h7] <;> rfl⟩)
def u_X4_takeEvent_1 (o : Nat) (q1 : Nat) (N : Nat) (σ : zS) : zS := (r_X4_goOn o q1 (σ.1 o 7) N σ).2
def u_X4_takeEvent_2 (o : Nat) (q1 : Nat) (N : Nat) (σ : zS) : zS := zuI (u_X4_takeEvent_1 o q1 N σ) o 12 ((r_X4_goOn o q1 (σ.1 o 7) N σ).1)
def u_X4_takeEvent_3 (o : Nat) (q1 : Nat) (N : Nat) (σ : zS) : zS := zuI (u_X4_takeEvent_2 o q1 N σ) (f_X4_taskAt o (σ.1 o 7) σ) 5 (if ((u_X4_takeEvent_2 o q1 N σ).1 (f_X4_taskAt o (σ.1 o 7) σ) 5) < ((u_X4_takeEvent_2 o q1 N σ).1 ((f_X4_taskAt o (σ.1 o 7) σ) + 1) 0) then ((u_X4_takeEvent_2 o q1 N σ).1 ((f_X4_taskAt o (σ.1 o 7) σ) + 1) 0) else ((u_X4_takeEvent_2 o q1 N σ).1 (f_X4_taskAt o (σ.1 o 7) σ) 5))
def u_X4_takeEvent_4 (o : Nat) (q1 : Nat) (N : Nat) (σ : zS) : zS := zuI (u_X4_takeEvent_3 o q1 N σ) (f_X4_taskAt o (σ.1 o 7) σ) 4 (((u_X4_takeEvent_3 o q1 N σ).1 (f_X4_taskAt o (σ.1 o 7) σ) 4) + 1)
def u_X4_takeEvent_5 (o : Nat) (q1 : Nat) (N : Nat) (σ : zS) : zS := zuI (u_X4_takeEvent_4 o q1 N σ) o 9 (((u_X4_takeEvent_4 o q1 N σ).1 o 9) + 1)
def u_X4_takeEvent_6 (o : Nat) (q1 : Nat) (N : Nat) (σ : zS) : zS := zuI (u_X4_takeEvent_5 o q1 N σ) o 8 (((u_X4_takeEvent_5 o q1 N σ).1 o 8) + 1)
def u_X4_takeEvent_7 (o : Nat) (q1 : Nat) (N : Nat) (σ : zS) : zS := s_X4_passTurn o N (u_X4_takeEvent_6 o q1 N σ)
def u_X4_takeEvent_8 (o : Nat) (q1 : Nat) (N : Nat) (σ : zS) : zS := (r_X4_beginTask o q1 (σ.1 o 7) N σ).2
def u_X4_takeEvent_9 (o : Nat) (q1 : Nat) (N : Nat) (σ : zS) : zS := zuI (u_X4_takeEvent_8 o q1 N σ) o 12 ((r_X4_beginTask o q1 (σ.1 o 7) N σ).1)
def u_X4_takeEvent_10 (o : Nat) (q1 : Nat) (N : Nat) (σ : zS) : zS := zuI (u_X4_takeEvent_9 o q1 N σ) (f_X4_taskAt o (σ.1 o 7) σ) 5 (if ((u_X4_takeEvent_9 o q1 N σ).1 (f_X4_taskAt o (σ.1 o 7) σ) 5) < ((u_X4_takeEvent_9 o q1 N σ).1 ((f_X4_taskAt o (σ.1 o 7) σ) + 1) 0) then ((u_X4_takeEvent_9 o q1 N σ).1 ((f_X4_taskAt o (σ.1 o 7) σ) + 1) 0) else ((u_X4_takeEvent_9 o q1 N σ).1 (f_X4_taskAt o (σ.1 o 7) σ) 5))
def u_X4_takeEvent_11 (o : Nat) (q1 : Nat) (N : Nat) (σ : zS) : zS := zuI (u_X4_takeEvent_10 o q1 N σ) (f_X4_taskAt o (σ.1 o 7) σ) 4 (((u_X4_takeEvent_10 o q1 N σ).1 (f_X4_taskAt o (σ.1 o 7) σ) 4) + 1)
def u_X4_takeEvent_12 (o : Nat) (q1 : Nat) (N : Nat) (σ : zS) : zS := zuI (u_X4_takeEvent_11 o q1 N σ) o 9 (((u_X4_takeEvent_11 o q1 N σ).1 o 9) + 1)
def u_X4_takeEvent_13 (o : Nat) (q1 : Nat) (N : Nat) (σ : zS) : zS := zuI (u_X4_takeEvent_12 o q1 N σ) o 8 (((u_X4_takeEvent_12 o q1 N σ).1 o 8) + 1)
def u_X4_takeEvent_14 (o : Nat) (q1 : Nat) (N : Nat) (σ : zS) : zS := s_X4_passTurn o N (u_X4_takeEvent_13 o q1 N σ)
def s_X4_takeEvent (o : Nat) (q1 : Nat) (N : Nat) (σ : zS) : zS := if (σ.1 (f_X4_taskAt o (σ.1 o 7) σ) 1) = 0 then (u_X4_takeEvent_14 o q1 N σ) else (u_X4_takeEvent_7 o q1 N σ)
def p_X4_takeEvent (o : Nat) (q1 : Nat) (N : Nat) (σ : zS) : Prop := p_X4_taskAt o (σ.1 o 7) σ ∧ ((¬ (σ.1 (f_X4_taskAt o (σ.1 o 7) σ) 1) = 0 → (p_X4_goOn o q1 (σ.1 o 7) N σ ∧ p_X4_passTurn o N (u_X4_takeEvent_6 o q1 N σ))) ∧ ((σ.1 (f_X4_taskAt o (σ.1 o 7) σ) 1) = 0 → (p_X4_beginTask o q1 (σ.1 o 7) N σ ∧ p_X4_passTurn o N (u_X4_takeEvent_13 o q1 N σ))))
set_option maxRecDepth 100000 in
set_option maxHeartbeats 1000000 in
theorem c_X4_takeEvent {nx : Nat} (o : Nat) (q1 : Nat) (N : Nat) (σ : zS) (hp : p_X4_takeEvent o q1 N σ) : zCl 6 zall nx zall nx 67 [.inr (4, 17, o), .inr (2, 16, q1)] σ (fun v σ1 => v = none ∧ σ1 = s_X4_takeEvent o q1 N σ) := by
  refine zmeth (cd := kX4_takeEvent) [] 1000 (Nat.le_of_ble_eq_true rfl) rfl okX4_takeEvent (Nat.le_refl _) (Nat.le_of_ble_eq_true rfl) ?_
  refine zCl.use (c_X4_taskAt o (σ.1 o 7) σ hp.1) (Nat.le_of_ble_eq_true rfl) ?_
  rintro _ σz ⟨rfl, hz⟩
  subst σz
  refine And.intro (fun (h1 : ¬ (σ.1 (f_X4_taskAt o (σ.1 o 7) σ) 1) = 0) => ?_) (fun (h1 : (σ.1 (f_X4_taskAt o (σ.1 o 7) σ) 1) = 0) => ?_)
  · refine zCl.use (c_X4_goOn o q1 (σ.1 o 7) N σ (hp.2.1 h1).1) (Nat.le_of_ble_eq_true rfl) ?_
    rintro _ σz ⟨rfl, hz⟩
    subst σz
    refine zCl.use (c_X4_passTurn o N (u_X4_takeEvent_6 o q1 N σ) (hp.2.1 h1).2) (Nat.le_of_ble_eq_true rfl) ?_
    rintro _ σz ⟨rfl, hz⟩
    subst σz
    exact And.intro rfl (And.intro rfl ⟨rfl, by rw [s_X4_takeEvent, if_neg h1] <;> rfl⟩)
  · refine zCl.use (c_X4_beginTask o q1 (σ.1 o 7) N σ (hp.2.2 h1).1) (Nat.le_of_ble_eq_true rfl) ?_
    rintro _ σz ⟨rfl, hz⟩
    subst σz
    refine zCl.use (c_X4_passTurn o N (u_X4_takeEvent_13 o q1 N σ) (hp.2.2 h1).2) (Nat.le_of_ble_eq_true rfl) ?_
    rintro _ σz ⟨rfl, hz⟩
    subst σz
    exact And.intro rfl (And.intro rfl ⟨rfl, by rw [s_X4_takeEvent, if_pos h1] <;> rfl⟩)
def u_X6_next_h0_1 (N : Nat) (σ : zS) : zS := zuI σ 3 3 ((σ.1 3 3) + 1)
def u_X6_next_h1_1 (N : Nat) (σ : zS) : zS := zuI σ 3 4 (σ.1 3 3)
def u_X6_next_h1_2 (N : Nat) (σ : zS) : zS := zuI (u_X6_next_h1_1 N σ) 3 4 (((u_X6_next_h1_1 N σ).1 3 3) + 1)
def u_X6_next_h1_3 (N : Nat) (σ : zS) : zS := zuI (u_X6_next_h1_2 N σ) 3 2 301
def u_X6_next_h1_4 (N : Nat) (σ : zS) : zS := zuI (u_X6_next_h1_2 N σ) 3 2 (f_X8_at ((zlay ((u_X6_next_h1_1 N σ).2 3 0 - 1)).2) ((u_X6_next_h1_1 N σ).2 3 0 - 1) ((u_X6_next_h1_1 N σ).1 3 3) (u_X6_next_h1_1 N σ))
def u_X6_next_h1_5 (N : Nat) (σ : zS) : zS := s_X6_readNumber N (u_X6_next_h1_1 N σ)
def u_X6_next_h1_6 (N : Nat) (σ : zS) : zS := zuI (u_X6_next_h1_5 N σ) 3 2 302
def u_X6_next_h1_7 (N : Nat) (σ : zS) : zS := s_X6_skipWord N (u_X6_next_h1_1 N σ)
def u_X6_next_h1_8 (N : Nat) (σ : zS) : zS := zuI (u_X6_next_h1_7 N σ) 3 2 (f_X6_wordKind N (u_X6_next_h1_7 N σ))
def u_X6_next_h1_9 (N : Nat) (σ : zS) : zS := zuI (u_X6_next_h1_1 N σ) 3 2 300
def l_X6_next (N : Nat) : Nat → Nat → zS → zS
  | 0, _, σ => σ
  | n + 1, 0, σ => if (σ.1 3 1) ≤ (σ.1 3 3) then (l_X6_next N n 1 σ) else (if (f_X6_isBlank (f_X8_at ((zlay (σ.2 3 0 - 1)).2) (σ.2 3 0 - 1) (σ.1 3 3) σ)) = 0 then (l_X6_next N n 1 σ) else (l_X6_next N n 0 (u_X6_next_h0_1 N σ)))
  | n + 1, 1, σ => if ((u_X6_next_h1_1 N σ).1 3 3) < ((u_X6_next_h1_1 N σ).1 3 1) then (if (f_X6_isLetter (f_X8_at ((zlay ((u_X6_next_h1_1 N σ).2 3 0 - 1)).2) ((u_X6_next_h1_1 N σ).2 3 0 - 1) ((u_X6_next_h1_1 N σ).1 3 3) (u_X6_next_h1_1 N σ))) = 0 then (if (f_X6_isDigit (f_X8_at ((zlay ((u_X6_next_h1_1 N σ).2 3 0 - 1)).2) ((u_X6_next_h1_1 N σ).2 3 0 - 1) ((u_X6_next_h1_1 N σ).1 3 3) (u_X6_next_h1_1 N σ))) = 0 then (if (f_X6_isSign (f_X8_at ((zlay ((u_X6_next_h1_1 N σ).2 3 0 - 1)).2) ((u_X6_next_h1_1 N σ).2 3 0 - 1) ((u_X6_next_h1_1 N σ).1 3 3) (u_X6_next_h1_1 N σ)) N (u_X6_next_h1_2 N σ)) = 0 then (u_X6_next_h1_3 N σ) else (u_X6_next_h1_4 N σ)) else (u_X6_next_h1_6 N σ)) else (u_X6_next_h1_8 N σ)) else (u_X6_next_h1_9 N σ)
  | _ + 1, _, σ => σ
def q_X6_next (N : Nat) : Nat → Nat → zS → Prop
  | 0, _, _ => False
  | n + 1, 0, σ => ((σ.1 3 1) ≤ (σ.1 3 3) → q_X6_next N n 1 σ) ∧ (¬ (σ.1 3 1) ≤ (σ.1 3 3) → ((σ.2 3 0 ≠ 0 ∧ (zlay (σ.2 3 0 - 1)).1 = 20) ∧ (p_X8_at ((zlay (σ.2 3 0 - 1)).2) (σ.2 3 0 - 1) (σ.1 3 3) σ ∧ (((f_X6_isBlank (f_X8_at ((zlay (σ.2 3 0 - 1)).2) (σ.2 3 0 - 1) (σ.1 3 3) σ)) = 0 → q_X6_next N n 1 σ) ∧ (¬ (f_X6_isBlank (f_X8_at ((zlay (σ.2 3 0 - 1)).2) (σ.2 3 0 - 1) (σ.1 3 3) σ)) = 0 → q_X6_next N n 0 (u_X6_next_h0_1 N σ))))))
  | n + 1, 1, σ => ((u_X6_next_h1_1 N σ).2 3 0 ≠ 0 ∧ (zlay ((u_X6_next_h1_1 N σ).2 3 0 - 1)).1 = 20) ∧ (p_X8_at ((zlay ((u_X6_next_h1_1 N σ).2 3 0 - 1)).2) ((u_X6_next_h1_1 N σ).2 3 0 - 1) ((u_X6_next_h1_1 N σ).1 3 3) (u_X6_next_h1_1 N σ) ∧ (((u_X6_next_h1_1 N σ).1 3 3) < ((u_X6_next_h1_1 N σ).1 3 1) → (((f_X6_isLetter (f_X8_at ((zlay ((u_X6_next_h1_1 N σ).2 3 0 - 1)).2) ((u_X6_next_h1_1 N σ).2 3 0 - 1) ((u_X6_next_h1_1 N σ).1 3 3) (u_X6_next_h1_1 N σ))) = 0 → (((f_X6_isDigit (f_X8_at ((zlay ((u_X6_next_h1_1 N σ).2 3 0 - 1)).2) ((u_X6_next_h1_1 N σ).2 3 0 - 1) ((u_X6_next_h1_1 N σ).1 3 3) (u_X6_next_h1_1 N σ))) = 0 → p_X6_isSign (f_X8_at ((zlay ((u_X6_next_h1_1 N σ).2 3 0 - 1)).2) ((u_X6_next_h1_1 N σ).2 3 0 - 1) ((u_X6_next_h1_1 N σ).1 3 3) (u_X6_next_h1_1 N σ)) N (u_X6_next_h1_2 N σ)) ∧ (¬ (f_X6_isDigit (f_X8_at ((zlay ((u_X6_next_h1_1 N σ).2 3 0 - 1)).2) ((u_X6_next_h1_1 N σ).2 3 0 - 1) ((u_X6_next_h1_1 N σ).1 3 3) (u_X6_next_h1_1 N σ))) = 0 → p_X6_readNumber N (u_X6_next_h1_1 N σ)))) ∧ (¬ (f_X6_isLetter (f_X8_at ((zlay ((u_X6_next_h1_1 N σ).2 3 0 - 1)).2) ((u_X6_next_h1_1 N σ).2 3 0 - 1) ((u_X6_next_h1_1 N σ).1 3 3) (u_X6_next_h1_1 N σ))) = 0 → (p_X6_skipWord N (u_X6_next_h1_1 N σ) ∧ p_X6_wordKind N (u_X6_next_h1_7 N σ))))))
  | _ + 1, _, _ => False
set_option maxRecDepth 100000 in
set_option maxHeartbeats 1000000 in
theorem w_X6_next {cp : Nat → Bool} {nx : Nat} (N : Nat) : ∀ n : Nat, (∀ (σ : zS), q_X6_next N n 0 σ → zWp 8 cp nx 92 (fun v σ1 => v = none ∧ σ1 = l_X6_next N n 0 σ) cp nx 8 [some (.inr (6, 6, 3)), none] [] σ) ∧ (∀ (σ : zS), q_X6_next N n 1 σ → zWp 8 cp nx 92 (fun v σ1 => v = none ∧ σ1 = l_X6_next N n 1 σ) cp nx 49 [some (.inr (6, 6, 3)), none] [] σ) := by
  intro n
  induction n with
  | zero => exact ⟨fun _ h => h.elim, fun _ h => h.elim⟩
  | succ n ih =>
    refine ⟨?_, ?_⟩
    · intro σ hp
      rw [q_X6_next] at hp
      refine zvc_sound (cd := kX6_next) (cs := [8, 49]) rfl okX6_next 1000 _ _ 8 (zseek kX6_next 8) _ _ _ zseek_sub ?_
      refine And.intro (fun (h1 : (σ.1 3 1) ≤ (σ.1 3 3)) => ?_) (fun (h1 : ¬ (σ.1 3 1) ≤ (σ.1 3 3)) => ?_)
      · refine zWp.use (ih.2 σ (hp.1 h1)) (And.intro rfl trivial) (fun vy σy hy => ?_)
        rw [l_X6_next, if_pos h1]; exact hy
      · refine And.intro (hp.2 h1).1.1 (fun q902 (e2 : σ.2 3 0 = q902 + 1) => ?_)
        have g2 : q902 = (σ.2 3 0 - 1) := by omega
        subst g2
        rw [(hp.2 h1).1.2]
        refine zCl.use (c_X8_at ((zlay (σ.2 3 0 - 1)).2) (σ.2 3 0 - 1) (σ.1 3 3) σ (hp.2 h1).2.1) (Nat.le_of_ble_eq_true rfl) ?_
        rintro _ σz ⟨rfl, hz⟩
        subst σz
        refine zCl.use (c_X6_isBlank (f_X8_at ((zlay (σ.2 3 0 - 1)).2) (σ.2 3 0 - 1) (σ.1 3 3) σ) σ) (Nat.le_of_ble_eq_true rfl) ?_
        rintro _ σz ⟨rfl, hz⟩
        subst σz
        refine And.intro (fun (h3 : (f_X6_isBlank (f_X8_at ((zlay (σ.2 3 0 - 1)).2) (σ.2 3 0 - 1) (σ.1 3 3) σ)) = 0) => ?_) (fun (h3 : ¬ (f_X6_isBlank (f_X8_at ((zlay (σ.2 3 0 - 1)).2) (σ.2 3 0 - 1) (σ.1 3 3) σ)) = 0) => ?_)
        · refine zWp.use (ih.2 σ ((hp.2 h1).2.2.1 h3)) (And.intro rfl trivial) (fun vy σy hy => ?_)
          rw [l_X6_next, if_neg h1, if_pos h3]; exact hy
        · refine zWp.use (ih.1 (u_X6_next_h0_1 N σ) ((hp.2 h1).2.2.2 h3)) (And.intro rfl trivial) (fun vy σy hy => ?_)
          rw [l_X6_next, if_neg h1, if_neg h3]; exact hy
    · intro σ hp
      rw [q_X6_next] at hp
      refine zvc_sound (cd := kX6_next) (cs := [8, 49]) rfl okX6_next 1000 _ _ 49 (zseek kX6_next 49) _ _ _ zseek_sub ?_
      refine And.intro hp.1.1 (fun q901 (e1 : (u_X6_next_h1_1 N σ).2 3 0 = q901 + 1) => ?_)
      have g1 : q901 = ((u_X6_next_h1_1 N σ).2 3 0 - 1) := by omega
      subst g1
      rw [hp.1.2]
      refine zCl.use (c_X8_at ((zlay ((u_X6_next_h1_1 N σ).2 3 0 - 1)).2) ((u_X6_next_h1_1 N σ).2 3 0 - 1) ((u_X6_next_h1_1 N σ).1 3 3) (u_X6_next_h1_1 N σ) hp.2.1) (Nat.le_of_ble_eq_true rfl) ?_
      rintro _ σz ⟨rfl, hz⟩
      subst σz
      refine And.intro (fun (h2 : ((u_X6_next_h1_1 N σ).1 3 3) < ((u_X6_next_h1_1 N σ).1 3 1)) => ?_) (fun (h2 : ¬ ((u_X6_next_h1_1 N σ).1 3 3) < ((u_X6_next_h1_1 N σ).1 3 1)) => ?_)
      · refine zCl.use (c_X6_isLetter (f_X8_at ((zlay ((u_X6_next_h1_1 N σ).2 3 0 - 1)).2) ((u_X6_next_h1_1 N σ).2 3 0 - 1) ((u_X6_next_h1_1 N σ).1 3 3) (u_X6_next_h1_1 N σ)) (u_X6_next_h1_1 N σ)) (Nat.le_of_ble_eq_true rfl) ?_
        rintro _ σz ⟨rfl, hz⟩
        subst σz
        refine And.intro (fun (h3 : (f_X6_isLetter (f_X8_at ((zlay ((u_X6_next_h1_1 N σ).2 3 0 - 1)).2) ((u_X6_next_h1_1 N σ).2 3 0 - 1) ((u_X6_next_h1_1 N σ).1 3 3) (u_X6_next_h1_1 N σ))) = 0) => ?_) (fun (h3 : ¬ (f_X6_isLetter (f_X8_at ((zlay ((u_X6_next_h1_1 N σ).2 3 0 - 1)).2) ((u_X6_next_h1_1 N σ).2 3 0 - 1) ((u_X6_next_h1_1 N σ).1 3 3) (u_X6_next_h1_1 N σ))) = 0) => ?_)
        · refine zCl.use (c_X6_isDigit (f_X8_at ((zlay ((u_X6_next_h1_1 N σ).2 3 0 - 1)).2) ((u_X6_next_h1_1 N σ).2 3 0 - 1) ((u_X6_next_h1_1 N σ).1 3 3) (u_X6_next_h1_1 N σ)) (u_X6_next_h1_1 N σ)) (Nat.le_of_ble_eq_true rfl) ?_
          rintro _ σz ⟨rfl, hz⟩
          subst σz
          refine And.intro (fun (h4 : (f_X6_isDigit (f_X8_at ((zlay ((u_X6_next_h1_1 N σ).2 3 0 - 1)).2) ((u_X6_next_h1_1 N σ).2 3 0 - 1) ((u_X6_next_h1_1 N σ).1 3 3) (u_X6_next_h1_1 N σ))) = 0) => ?_) (fun (h4 : ¬ (f_X6_isDigit (f_X8_at ((zlay ((u_X6_next_h1_1 N σ).2 3 0 - 1)).2) ((u_X6_next_h1_1 N σ).2 3 0 - 1) ((u_X6_next_h1_1 N σ).1 3 3) (u_X6_next_h1_1 N σ))) = 0) => ?_)
          · refine zCl.use (c_X6_isSign (f_X8_at ((zlay ((u_X6_next_h1_1 N σ).2 3 0 - 1)).2) ((u_X6_next_h1_1 N σ).2 3 0 - 1) ((u_X6_next_h1_1 N σ).1 3 3) (u_X6_next_h1_1 N σ)) N (u_X6_next_h1_2 N σ) (((hp.2.2 h2).1 h3).1 h4)) (Nat.le_of_ble_eq_true rfl) ?_
            rintro _ σz ⟨rfl, hz⟩
            subst σz
            refine And.intro (fun (h5 : (f_X6_isSign (f_X8_at ((zlay ((u_X6_next_h1_1 N σ).2 3 0 - 1)).2) ((u_X6_next_h1_1 N σ).2 3 0 - 1) ((u_X6_next_h1_1 N σ).1 3 3) (u_X6_next_h1_1 N σ)) N (u_X6_next_h1_2 N σ)) = 0) => ?_) (fun (h5 : ¬ (f_X6_isSign (f_X8_at ((zlay ((u_X6_next_h1_1 N σ).2 3 0 - 1)).2) ((u_X6_next_h1_1 N σ).2 3 0 - 1) ((u_X6_next_h1_1 N σ).1 3 3) (u_X6_next_h1_1 N σ)) N (u_X6_next_h1_2 N σ)) = 0) => ?_)
            · exact And.intro rfl (And.intro rfl ⟨rfl, by rw [l_X6_next, if_pos h2, if_pos h3, if_pos h4, if_pos h5] <;> rfl⟩)
            · exact And.intro rfl (And.intro rfl ⟨rfl, by rw [l_X6_next, if_pos h2, if_pos h3, if_pos h4, if_neg h5] <;> rfl⟩)
          · refine zCl.use (c_X6_readNumber N (u_X6_next_h1_1 N σ) (((hp.2.2 h2).1 h3).2 h4)) (Nat.le_of_ble_eq_true rfl) ?_
            rintro _ σz ⟨rfl, hz⟩
            subst σz
            exact And.intro rfl (And.intro rfl ⟨rfl, by rw [l_X6_next, if_pos h2, if_pos h3, if_neg h4] <;> rfl⟩)
        · refine zCl.use (c_X6_skipWord N (u_X6_next_h1_1 N σ) ((hp.2.2 h2).2 h3).1) (Nat.le_of_ble_eq_true rfl) ?_
          rintro _ σz ⟨rfl, hz⟩
          subst σz
          refine zCl.use (c_X6_wordKind N (u_X6_next_h1_7 N σ) ((hp.2.2 h2).2 h3).2) (Nat.le_of_ble_eq_true rfl) ?_
          rintro _ σz ⟨rfl, hz⟩
          subst σz
          exact And.intro rfl (And.intro rfl ⟨rfl, by rw [l_X6_next, if_pos h2, if_neg h3] <;> rfl⟩)
      · exact And.intro rfl (And.intro rfl ⟨rfl, by rw [l_X6_next, if_neg h2] <;> rfl⟩)
def u_X6_next_1 (N : Nat) (σ : zS) : zS := zuI σ 3 3 (σ.1 3 4)
def s_X6_next (N : Nat) (σ : zS) : zS := l_X6_next N N 0 (u_X6_next_1 N σ)
def p_X6_next (N : Nat) (σ : zS) : Prop := q_X6_next N N 0 (u_X6_next_1 N σ)
set_option maxRecDepth 100000 in
set_option maxHeartbeats 1000000 in
theorem c_X6_next {cp : Nat → Bool} {nx : Nat} (N : Nat) (σ : zS) (hp : p_X6_next N σ) : zCl 8 cp nx cp nx 92 [.inr (6, 6, 3)] σ (fun v σ1 => v = none ∧ σ1 = s_X6_next N σ) := by
  refine zmeth (cd := kX6_next) [8, 49] 1000 (Nat.le_of_ble_eq_true rfl) rfl okX6_next (Nat.le_refl _) (Nat.le_of_ble_eq_true rfl) ?_
  refine zWp.use ((w_X6_next N N).1 (u_X6_next_1 N σ) hp) (And.intro rfl trivial) (fun vy σy hy => ?_)
  rw [s_X6_next]; exact hy
def u_X8_plain_1 (x1 : Int32) (x2 : Int32) (x3 : Int32) (x4 : Int32) (x5 : Int32) (N : Nat) (σ : zS) : zS := (r_X8_followPlainly x1 x2 x3 x4 x5 N σ).2
def r_X8_plain (x1 : Int32) (x2 : Int32) (x3 : Int32) (x4 : Int32) (x5 : Int32) (N : Nat) (σ : zS) : Int32 × zS := if ((r_X8_followPlainly x1 x2 x3 x4 x5 N σ).1) = 0 then (0, (u_X8_plain_1 x1 x2 x3 x4 x5 N σ)) else ((u_X8_plain_1 x1 x2 x3 x4 x5 N σ).1 385 3, (u_X8_plain_1 x1 x2 x3 x4 x5 N σ))
def p_X8_plain (x1 : Int32) (x2 : Int32) (x3 : Int32) (x4 : Int32) (x5 : Int32) (N : Nat) (σ : zS) : Prop := p_X8_followPlainly x1 x2 x3 x4 x5 N σ
set_option maxRecDepth 100000 in
set_option maxHeartbeats 1000000 in
theorem c_X8_plain {nx : Nat} (x1 : Int32) (x2 : Int32) (x3 : Int32) (x4 : Int32) (x5 : Int32) (N : Nat) (σ : zS) (hp : p_X8_plain x1 x2 x3 x4 x5 N σ) : zCl 8 zall nx zall nx 126 [.inr (8, 16, 0), .inl x1, .inl x2, .inl x3, .inl x4, .inl x5] σ (fun v σ1 => v = some (.inl ((r_X8_plain x1 x2 x3 x4 x5 N σ).1)) ∧ σ1 = (r_X8_plain x1 x2 x3 x4 x5 N σ).2) := by
  refine zmeth (cd := kX8_plain) [] 1000 (Nat.le_of_ble_eq_true rfl) rfl okX8_plain (Nat.le_refl _) (Nat.le_of_ble_eq_true rfl) ?_
  refine zCl.use (c_X8_followPlainly x1 x2 x3 x4 x5 N σ hp) (Nat.le_of_ble_eq_true rfl) ?_
  rintro _ σz ⟨rfl, hz⟩
  subst σz
  refine And.intro (fun (h1 : ((r_X8_followPlainly x1 x2 x3 x4 x5 N σ).1) = 0) => ?_) (fun (h1 : ¬ ((r_X8_followPlainly x1 x2 x3 x4 x5 N σ).1) = 0) => ?_)
  · exact And.intro rfl (And.intro rfl ⟨by rw [r_X8_plain, if_pos h1] <;> rfl, by rw [r_X8_plain, if_pos h1] <;> rfl⟩)
  · exact And.intro rfl (And.intro rfl ⟨by rw [r_X8_plain, if_neg h1] <;> rfl, by rw [r_X8_plain, if_neg h1] <;> rfl⟩)
def u_X8_profile_1 (x1 : Int32) (x2 : Int32) (x3 : Int32) (x4 : Int32) (x5 : Int32) (x6 : Int32) (N : Nat) (σ : zS) : zS := (r_X8_followPlainly x1 x2 x3 x4 x5 N σ).2
def r_X8_profile (x1 : Int32) (x2 : Int32) (x3 : Int32) (x4 : Int32) (x5 : Int32) (x6 : Int32) (N : Nat) (σ : zS) : Int32 × zS := if x6 < 0 then (-1, σ) else (if 2 < x6 then (-1, σ) else (if ((r_X8_followPlainly x1 x2 x3 x4 x5 N σ).1) = 0 then (-1, (u_X8_profile_1 x1 x2 x3 x4 x5 x6 N σ)) else (if x6 = 0 then ((u_X8_profile_1 x1 x2 x3 x4 x5 x6 N σ).1 384 2, (u_X8_profile_1 x1 x2 x3 x4 x5 x6 N σ)) else (if x6 = 1 then ((u_X8_profile_1 x1 x2 x3 x4 x5 x6 N σ).1 384 3, (u_X8_profile_1 x1 x2 x3 x4 x5 x6 N σ)) else ((u_X8_profile_1 x1 x2 x3 x4 x5 x6 N σ).1 384 4, (u_X8_profile_1 x1 x2 x3 x4 x5 x6 N σ))))))
def p_X8_profile (x1 : Int32) (x2 : Int32) (x3 : Int32) (x4 : Int32) (x5 : Int32) (x6 : Int32) (N : Nat) (σ : zS) : Prop := ¬ x6 < 0 → (¬ 2 < x6 → p_X8_followPlainly x1 x2 x3 x4 x5 N σ)
set_option maxRecDepth 100000 in
set_option maxHeartbeats 1000000 in
theorem c_X8_profile {nx : Nat} (x1 : Int32) (x2 : Int32) (x3 : Int32) (x4 : Int32) (x5 : Int32) (x6 : Int32) (N : Nat) (σ : zS) (hp : p_X8_profile x1 x2 x3 x4 x5 x6 N σ) : zCl 8 zall nx zall nx 127 [.inr (8, 16, 0), .inl x1, .inl x2, .inl x3, .inl x4, .inl x5, .inl x6] σ (fun v σ1 => v = some (.inl ((r_X8_profile x1 x2 x3 x4 x5 x6 N σ).1)) ∧ σ1 = (r_X8_profile x1 x2 x3 x4 x5 x6 N σ).2) := by
  refine zmeth (cd := kX8_profile) [] 1000 (Nat.le_of_ble_eq_true rfl) rfl okX8_profile (Nat.le_refl _) (Nat.le_of_ble_eq_true rfl) ?_
  refine And.intro (fun (h1 : x6 < 0) => ?_) (fun (h1 : ¬ x6 < 0) => ?_)
  · exact And.intro rfl (And.intro rfl ⟨by rw [r_X8_profile, if_pos h1] <;> rfl, by rw [r_X8_profile, if_pos h1] <;> rfl⟩)
  · refine And.intro (fun (h2 : 2 < x6) => ?_) (fun (h2 : ¬ 2 < x6) => ?_)
    · exact And.intro rfl (And.intro rfl ⟨by rw [r_X8_profile, if_neg h1, if_pos h2] <;> rfl, by rw [r_X8_profile, if_neg h1, if_pos h2] <;> rfl⟩)
    · refine zCl.use (c_X8_followPlainly x1 x2 x3 x4 x5 N σ ((hp h1) h2)) (Nat.le_of_ble_eq_true rfl) ?_
      rintro _ σz ⟨rfl, hz⟩
      subst σz
      refine And.intro (fun (h3 : ¬ ((r_X8_followPlainly x1 x2 x3 x4 x5 N σ).1) = 0) => ?_) (fun (h3 : ((r_X8_followPlainly x1 x2 x3 x4 x5 N σ).1) = 0) => ?_)
      · refine And.intro (fun (h4 : ¬ x6 = 0) => ?_) (fun (h4 : x6 = 0) => ?_)
        · refine And.intro (fun (h5 : ¬ x6 = 1) => ?_) (fun (h5 : x6 = 1) => ?_)
          · exact And.intro rfl (And.intro rfl ⟨by rw [r_X8_profile, if_neg h1, if_neg h2, if_neg h3, if_neg h4, if_neg h5] <;> rfl, by rw [r_X8_profile, if_neg h1, if_neg h2, if_neg h3, if_neg h4, if_neg h5] <;> rfl⟩)
          · exact And.intro rfl (And.intro rfl ⟨by rw [r_X8_profile, if_neg h1, if_neg h2, if_neg h3, if_neg h4, if_pos h5] <;> rfl, by rw [r_X8_profile, if_neg h1, if_neg h2, if_neg h3, if_neg h4, if_pos h5] <;> rfl⟩)
        · exact And.intro rfl (And.intro rfl ⟨by rw [r_X8_profile, if_neg h1, if_neg h2, if_neg h3, if_pos h4] <;> rfl, by rw [r_X8_profile, if_neg h1, if_neg h2, if_neg h3, if_pos h4] <;> rfl⟩)
      · exact And.intro rfl (And.intro rfl ⟨by rw [r_X8_profile, if_neg h1, if_neg h2, if_pos h3] <;> rfl, by rw [r_X8_profile, if_neg h1, if_neg h2, if_pos h3] <;> rfl⟩)
def u_X8_depths_1 (x1 : Int32) (x2 : Int32) (N : Nat) (σ : zS) : zS := (r_X8_followTask x1 N σ).2
def r_X8_depths (x1 : Int32) (x2 : Int32) (N : Nat) (σ : zS) : Int32 × zS := if x2 < 1 then (-1, σ) else (if 60 < x2 then (-1, σ) else (if ((r_X8_followTask x1 N σ).1) = 0 then (-1, (u_X8_depths_1 x1 x2 N σ)) else (f_X7_timesAt 384 x2 N (u_X8_depths_1 x1 x2 N σ), (u_X8_depths_1 x1 x2 N σ))))
def p_X8_depths (x1 : Int32) (x2 : Int32) (N : Nat) (σ : zS) : Prop := ¬ x2 < 1 → (¬ 60 < x2 → (p_X8_followTask x1 N σ ∧ (¬ ((r_X8_followTask x1 N σ).1) = 0 → p_X7_timesAt 384 x2 N (u_X8_depths_1 x1 x2 N σ))))
set_option maxRecDepth 100000 in
set_option maxHeartbeats 1000000 in
theorem c_X8_depths {nx : Nat} (x1 : Int32) (x2 : Int32) (N : Nat) (σ : zS) (hp : p_X8_depths x1 x2 N σ) : zCl 8 zall nx zall nx 128 [.inr (8, 16, 0), .inl x1, .inl x2] σ (fun v σ1 => v = some (.inl ((r_X8_depths x1 x2 N σ).1)) ∧ σ1 = (r_X8_depths x1 x2 N σ).2) := by
  refine zmeth (cd := kX8_depths) [] 1000 (Nat.le_of_ble_eq_true rfl) rfl okX8_depths (Nat.le_refl _) (Nat.le_of_ble_eq_true rfl) ?_
  refine And.intro (fun (h1 : x2 < 1) => ?_) (fun (h1 : ¬ x2 < 1) => ?_)
  · exact And.intro rfl (And.intro rfl ⟨by rw [r_X8_depths, if_pos h1] <;> rfl, by rw [r_X8_depths, if_pos h1] <;> rfl⟩)
  · refine And.intro (fun (h2 : 60 < x2) => ?_) (fun (h2 : ¬ 60 < x2) => ?_)
    · exact And.intro rfl (And.intro rfl ⟨by rw [r_X8_depths, if_neg h1, if_pos h2] <;> rfl, by rw [r_X8_depths, if_neg h1, if_pos h2] <;> rfl⟩)
    · refine zCl.use (c_X8_followTask x1 N σ ((hp h1) h2).1) (Nat.le_of_ble_eq_true rfl) ?_
      rintro _ σz ⟨rfl, hz⟩
      subst σz
      refine And.intro (fun (h3 : ¬ ((r_X8_followTask x1 N σ).1) = 0) => ?_) (fun (h3 : ((r_X8_followTask x1 N σ).1) = 0) => ?_)
      · refine zCl.use (c_X7_timesAt 384 x2 N (u_X8_depths_1 x1 x2 N σ) (((hp h1) h2).2 h3)) (Nat.le_of_ble_eq_true rfl) ?_
        rintro _ σz ⟨rfl, hz⟩
        subst σz
        exact And.intro rfl (And.intro rfl ⟨by rw [r_X8_depths, if_neg h1, if_neg h2, if_neg h3] <;> rfl, by rw [r_X8_depths, if_neg h1, if_neg h2, if_neg h3] <;> rfl⟩)
      · exact And.intro rfl (And.intro rfl ⟨by rw [r_X8_depths, if_neg h1, if_neg h2, if_pos h3] <;> rfl, by rw [r_X8_depths, if_neg h1, if_neg h2, if_pos h3] <;> rfl⟩)
def u_X8_least_h1_1 (N : Nat) (v1 : Int32) (v2 : Int32) (v3 : Int32) (v4 : Int32) (v5 : Int32) (v6 : Int32) (σ : zS) : zS := zcpy σ 392 393 0 0 13
def u_X8_least_h1_2 (N : Nat) (v1 : Int32) (v2 : Int32) (v3 : Int32) (v4 : Int32) (v5 : Int32) (v6 : Int32) (σ : zS) : zS := s_X8_put 13 392 v6 (f_X8_leastOfReturn v6 v4 v2 N σ) σ
def u_X8_least_h1_3 (N : Nat) (v1 : Int32) (v2 : Int32) (v3 : Int32) (v4 : Int32) (v5 : Int32) (v6 : Int32) (σ : zS) : zS := s_X8_put 13 392 v6 (f_X8_leastOfCall v6 v2 N σ) σ
def l_X8_least (N : Nat) : Nat → Nat → Int32 → Int32 → Int32 → Int32 → Int32 → Int32 → zS → Int32 × zS
  | 0, _, _, _, _, _, _, _, σ => (0, σ)
  | n + 1, 0, v1, v2, v3, v4, v5, v6, σ => if v3 ≤ 0 then (f_X8_at 13 393 1 σ, σ) else (if (f_X8_at 3000 389 v3 σ) ≤ (f_X8_at 3000 389 (v3 - 1) σ) then (l_X8_least N n 1 v1 v2 v3 (f_X8_at 3000 389 v3 σ) 0 1 σ) else (l_X8_least N n 1 v1 v2 v3 (f_X8_at 3000 389 v3 σ) 1 1 σ))
  | n + 1, 1, v1, v2, v3, v4, v5, v6, σ => if v2 < v6 then (l_X8_least N n 0 v1 v2 (v3 + (-1)) 0 0 0 (u_X8_least_h1_1 N v1 v2 v3 v4 v5 v6 σ)) else (if v5 = 0 then (l_X8_least N n 1 v1 v2 v3 v4 v5 (v6 + 1) (u_X8_least_h1_2 N v1 v2 v3 v4 v5 v6 σ)) else (l_X8_least N n 1 v1 v2 v3 v4 v5 (v6 + 1) (u_X8_least_h1_3 N v1 v2 v3 v4 v5 v6 σ)))
  | _ + 1, _, _, _, _, _, _, _, σ => (0, σ)
def q_X8_least (N : Nat) : Nat → Nat → Int32 → Int32 → Int32 → Int32 → Int32 → Int32 → zS → Prop
  | 0, _, _, _, _, _, _, _, _ => False
  | n + 1, 0, v1, v2, v3, v4, v5, v6, σ => (v3 ≤ 0 → p_X8_at 13 393 1 σ) ∧ (¬ v3 ≤ 0 → (p_X8_at 3000 389 v3 σ ∧ (p_X8_at 3000 389 (v3 - 1) σ ∧ (((f_X8_at 3000 389 v3 σ) ≤ (f_X8_at 3000 389 (v3 - 1) σ) → q_X8_least N n 1 v1 v2 v3 (f_X8_at 3000 389 v3 σ) 0 1 σ) ∧ (¬ (f_X8_at 3000 389 v3 σ) ≤ (f_X8_at 3000 389 (v3 - 1) σ) → q_X8_least N n 1 v1 v2 v3 (f_X8_at 3000 389 v3 σ) 1 1 σ)))))
  | n + 1, 1, v1, v2, v3, v4, v5, v6, σ => (v2 < v6 → q_X8_least N n 0 v1 v2 (v3 + (-1)) 0 0 0 (u_X8_least_h1_1 N v1 v2 v3 v4 v5 v6 σ)) ∧ (¬ v2 < v6 → ((v5 = 0 → (p_X8_leastOfReturn v6 v4 v2 N σ ∧ (p_X8_put 13 392 v6 (f_X8_leastOfReturn v6 v4 v2 N σ) σ ∧ q_X8_least N n 1 v1 v2 v3 v4 v5 (v6 + 1) (u_X8_least_h1_2 N v1 v2 v3 v4 v5 v6 σ)))) ∧ (¬ v5 = 0 → (p_X8_leastOfCall v6 v2 N σ ∧ (p_X8_put 13 392 v6 (f_X8_leastOfCall v6 v2 N σ) σ ∧ q_X8_least N n 1 v1 v2 v3 v4 v5 (v6 + 1) (u_X8_least_h1_3 N v1 v2 v3 v4 v5 v6 σ))))))
  | _ + 1, _, _, _, _, _, _, _, _ => False
set_option maxRecDepth 100000 in
set_option maxHeartbeats 1000000 in
theorem w_X8_least {nx : Nat} (N : Nat) : ∀ n : Nat, (∀ (v1 : Int32) (v2 : Int32) (v3 : Int32) (v4 : Int32) (v5 : Int32) (v6 : Int32) (σ : zS), q_X8_least N n 0 v1 v2 v3 v4 v5 v6 σ → zWp 8 zall nx 130 (fun v σ1 => v = some (.inl ((l_X8_least N n 0 v1 v2 v3 v4 v5 v6 σ).1)) ∧ σ1 = (l_X8_least N n 0 v1 v2 v3 v4 v5 v6 σ).2) zall nx 39 [some (.inr (8, 16, 0)), some (.inl v1), some (.inl v2), some (.inl v3), none, none, none] [] σ) ∧ (∀ (v1 : Int32) (v2 : Int32) (v3 : Int32) (v4 : Int32) (v5 : Int32) (v6 : Int32) (σ : zS), q_X8_least N n 1 v1 v2 v3 v4 v5 v6 σ → zWp 8 zall nx 130 (fun v σ1 => v = some (.inl ((l_X8_least N n 1 v1 v2 v3 v4 v5 v6 σ).1)) ∧ σ1 = (l_X8_least N n 1 v1 v2 v3 v4 v5 v6 σ).2) zall nx 84 [some (.inr (8, 16, 0)), some (.inl v1), some (.inl v2), some (.inl v3), some (.inl v4), some (.inl v5), some (.inl v6)] [] σ) := by
  intro n
  induction n with
  | zero => exact ⟨fun _ _ _ _ _ _ _ h => h.elim, fun _ _ _ _ _ _ _ h => h.elim⟩
  | succ n ih =>
    refine ⟨?_, ?_⟩
    · intro v1 v2 v3 v4 v5 v6 σ hp
      rw [q_X8_least] at hp
      refine zvc_sound (cd := kX8_least) (cs := [39, 84]) rfl okX8_least 1000 _ _ 39 (zseek kX8_least 39) _ _ _ zseek_sub ?_
      refine And.intro (fun (h1 : v3 ≤ 0) => ?_) (fun (h1 : ¬ v3 ≤ 0) => ?_)
      · refine zCl.use (c_X8_at 13 393 1 σ (hp.1 h1)) (Nat.le_of_ble_eq_true rfl) ?_
        rintro _ σz ⟨rfl, hz⟩
        subst σz
        exact And.intro rfl (And.intro rfl ⟨by rw [l_X8_least, if_pos h1] <;> rfl, by rw [l_X8_least, if_pos h1] <;> rfl⟩)
      · refine zCl.use (c_X8_at 3000 389 v3 σ (hp.2 h1).1) (Nat.le_of_ble_eq_true rfl) ?_
        rintro _ σz ⟨rfl, hz⟩
        subst σz
        refine zCl.use (c_X8_at 3000 389 (v3 - 1) σ (hp.2 h1).2.1) (Nat.le_of_ble_eq_true rfl) ?_
        rintro _ σz ⟨rfl, hz⟩
        subst σz
        refine And.intro (fun (h2 : (f_X8_at 3000 389 v3 σ) ≤ (f_X8_at 3000 389 (v3 - 1) σ)) => ?_) (fun (h2 : ¬ (f_X8_at 3000 389 v3 σ) ≤ (f_X8_at 3000 389 (v3 - 1) σ)) => ?_)
        · refine zWp.use (ih.2 v1 v2 v3 (f_X8_at 3000 389 v3 σ) 0 1 σ ((hp.2 h1).2.2.1 h2)) (And.intro rfl (And.intro rfl (And.intro rfl (And.intro rfl (And.intro rfl (And.intro rfl (And.intro rfl trivial))))))) (fun vy σy hy => ?_)
          rw [l_X8_least, if_neg h1, if_pos h2]; exact hy
        · refine zWp.use (ih.2 v1 v2 v3 (f_X8_at 3000 389 v3 σ) 1 1 σ ((hp.2 h1).2.2.2 h2)) (And.intro rfl (And.intro rfl (And.intro rfl (And.intro rfl (And.intro rfl (And.intro rfl (And.intro rfl trivial))))))) (fun vy σy hy => ?_)
          rw [l_X8_least, if_neg h1, if_neg h2]; exact hy
    · intro v1 v2 v3 v4 v5 v6 σ hp
      rw [q_X8_least] at hp
      refine zvc_sound (cd := kX8_least) (cs := [39, 84]) rfl okX8_least 1000 _ _ 84 (zseek kX8_least 84) _ _ _ zseek_sub ?_
      refine And.intro (fun (h1 : v2 < v6) => ?_) (fun (h1 : ¬ v2 < v6) => ?_)
      · refine And.intro (by decide) ?_
        refine And.intro (by decide) ?_
        refine And.intro (by decide) ?_
        refine And.intro (Nat.le_of_ble_eq_true rfl) ?_
        refine And.intro (Nat.le_of_ble_eq_true rfl) ?_
        refine zWp.use (ih.1 v1 v2 (v3 + (-1)) 0 0 0 (u_X8_least_h1_1 N v1 v2 v3 v4 v5 v6 σ) (hp.1 h1)) (And.intro rfl (And.intro rfl (And.intro rfl (And.intro rfl trivial)))) (fun vy σy hy => ?_)
        rw [l_X8_least, if_pos h1]; exact hy
      · refine And.intro (fun (h2 : v5 = 0) => ?_) (fun (h2 : ¬ v5 = 0) => ?_)
        · refine zCl.use (c_X8_leastOfReturn v6 v4 v2 N σ ((hp.2 h1).1 h2).1) (Nat.le_of_ble_eq_true rfl) ?_
          rintro _ σz ⟨rfl, hz⟩
          subst σz
          refine zCl.use (c_X8_put 13 392 v6 (f_X8_leastOfReturn v6 v4 v2 N σ) σ ((hp.2 h1).1 h2).2.1) (Nat.le_of_ble_eq_true rfl) ?_
          rintro _ σz ⟨rfl, hz⟩
          subst σz
          refine zWp.use (ih.2 v1 v2 v3 v4 v5 (v6 + 1) (u_X8_least_h1_2 N v1 v2 v3 v4 v5 v6 σ) ((hp.2 h1).1 h2).2.2) (And.intro rfl (And.intro rfl (And.intro rfl (And.intro rfl (And.intro rfl (And.intro rfl (And.intro rfl trivial))))))) (fun vy σy hy => ?_)
          rw [l_X8_least, if_neg h1, if_pos h2]; exact hy
        · refine zCl.use (c_X8_leastOfCall v6 v2 N σ ((hp.2 h1).2 h2).1) (Nat.le_of_ble_eq_true rfl) ?_
          rintro _ σz ⟨rfl, hz⟩
          subst σz
          refine zCl.use (c_X8_put 13 392 v6 (f_X8_leastOfCall v6 v2 N σ) σ ((hp.2 h1).2 h2).2.1) (Nat.le_of_ble_eq_true rfl) ?_
          rintro _ σz ⟨rfl, hz⟩
          subst σz
          refine zWp.use (ih.2 v1 v2 v3 v4 v5 (v6 + 1) (u_X8_least_h1_3 N v1 v2 v3 v4 v5 v6 σ) ((hp.2 h1).2 h2).2.2) (And.intro rfl (And.intro rfl (And.intro rfl (And.intro rfl (And.intro rfl (And.intro rfl (And.intro rfl trivial))))))) (fun vy σy hy => ?_)
          rw [l_X8_least, if_neg h1, if_neg h2]; exact hy
def u_X8_least_1 (x1 : Int32) (x2 : Int32) (N : Nat) (σ : zS) : zS := (r_X8_followTask x1 N σ).2
def u_X8_least_2 (x1 : Int32) (x2 : Int32) (N : Nat) (σ : zS) : zS := s_J7_fill_53178 13 393 0 N (u_X8_least_1 x1 x2 N σ)
def r_X8_least (x1 : Int32) (x2 : Int32) (N : Nat) (σ : zS) : Int32 × zS := if x2 < 2 then (-1, σ) else (if 12 < x2 then (-1, σ) else (if ((r_X8_followTask x1 N σ).1) = 0 then (-1, (u_X8_least_1 x1 x2 N σ)) else (l_X8_least N N 0 x1 x2 (((u_X8_least_2 x1 x2 N σ).1 384 2) - 1) 0 0 0 (u_X8_least_2 x1 x2 N σ))))
def p_X8_least (x1 : Int32) (x2 : Int32) (N : Nat) (σ : zS) : Prop := ¬ x2 < 2 → (¬ 12 < x2 → (p_X8_followTask x1 N σ ∧ (¬ ((r_X8_followTask x1 N σ).1) = 0 → (p_J7_fill_53178 13 393 0 N (u_X8_least_1 x1 x2 N σ) ∧ q_X8_least N N 0 x1 x2 (((u_X8_least_2 x1 x2 N σ).1 384 2) - 1) 0 0 0 (u_X8_least_2 x1 x2 N σ)))))
set_option maxRecDepth 100000 in
set_option maxHeartbeats 1000000 in
theorem c_X8_least {nx : Nat} (x1 : Int32) (x2 : Int32) (N : Nat) (σ : zS) (hp : p_X8_least x1 x2 N σ) : zCl 8 zall nx zall nx 130 [.inr (8, 16, 0), .inl x1, .inl x2] σ (fun v σ1 => v = some (.inl ((r_X8_least x1 x2 N σ).1)) ∧ σ1 = (r_X8_least x1 x2 N σ).2) := by
  refine zmeth (cd := kX8_least) [39, 84] 1000 (Nat.le_of_ble_eq_true rfl) rfl okX8_least (Nat.le_refl _) (Nat.le_of_ble_eq_true rfl) ?_
  refine And.intro (fun (h1 : x2 < 2) => ?_) (fun (h1 : ¬ x2 < 2) => ?_)
  · exact And.intro rfl (And.intro rfl ⟨by rw [r_X8_least, if_pos h1] <;> rfl, by rw [r_X8_least, if_pos h1] <;> rfl⟩)
  · refine And.intro (fun (h2 : 12 < x2) => ?_) (fun (h2 : ¬ 12 < x2) => ?_)
    · exact And.intro rfl (And.intro rfl ⟨by rw [r_X8_least, if_neg h1, if_pos h2] <;> rfl, by rw [r_X8_least, if_neg h1, if_pos h2] <;> rfl⟩)
    · refine zCl.use (c_X8_followTask x1 N σ ((hp h1) h2).1) (Nat.le_of_ble_eq_true rfl) ?_
      rintro _ σz ⟨rfl, hz⟩
      subst σz
      refine And.intro (fun (h3 : ¬ ((r_X8_followTask x1 N σ).1) = 0) => ?_) (fun (h3 : ((r_X8_followTask x1 N σ).1) = 0) => ?_)
      · refine zCl.use (c_J7_fill_53178 13 393 0 N (u_X8_least_1 x1 x2 N σ) (((hp h1) h2).2 h3).1) (Nat.le_of_ble_eq_true rfl) ?_
        rintro _ σz ⟨rfl, hz⟩
        subst σz
        refine zWp.use ((w_X8_least N N).1 x1 x2 (((u_X8_least_2 x1 x2 N σ).1 384 2) - 1) 0 0 0 (u_X8_least_2 x1 x2 N σ) (((hp h1) h2).2 h3).2) (And.intro rfl (And.intro rfl (And.intro rfl (And.intro rfl trivial)))) (fun vy σy hy => ?_)
        rw [r_X8_least, if_neg h1, if_neg h2, if_neg h3]; exact hy
      · exact And.intro rfl (And.intro rfl ⟨by rw [r_X8_least, if_neg h1, if_neg h2, if_pos h3] <;> rfl, by rw [r_X8_least, if_neg h1, if_neg h2, if_pos h3] <;> rfl⟩)
def u_X8_suits_1 (x1 : Int32) (N : Nat) (σ : zS) : zS := (r_X8_followTask x1 N σ).2
def r_X8_suits (x1 : Int32) (N : Nat) (σ : zS) : Int32 × zS := if ((r_X8_followTask x1 N σ).1) = 0 then (-1, (u_X8_suits_1 x1 N σ)) else (if ((u_X8_suits_1 x1 N σ).1 384 3) ≤ 12 then (if 2 < ((u_X8_suits_1 x1 N σ).1 384 3) then ((u_X8_suits_1 x1 N σ).1 384 3) else 2, (u_X8_suits_1 x1 N σ)) else (-1, (u_X8_suits_1 x1 N σ)))
def p_X8_suits (x1 : Int32) (N : Nat) (σ : zS) : Prop := p_X8_followTask x1 N σ
set_option maxRecDepth 100000 in
set_option maxHeartbeats 1000000 in
theorem c_X8_suits {nx : Nat} (x1 : Int32) (N : Nat) (σ : zS) (hp : p_X8_suits x1 N σ) : zCl 8 zall nx zall nx 131 [.inr (8, 16, 0), .inl x1] σ (fun v σ1 => v = some (.inl ((r_X8_suits x1 N σ).1)) ∧ σ1 = (r_X8_suits x1 N σ).2) := by
  refine zmeth (cd := kX8_suits) [] 1000 (Nat.le_of_ble_eq_true rfl) rfl okX8_suits (Nat.le_refl _) (Nat.le_of_ble_eq_true rfl) ?_
  refine zCl.use (c_X8_followTask x1 N σ hp) (Nat.le_of_ble_eq_true rfl) ?_
  rintro _ σz ⟨rfl, hz⟩
  subst σz
  refine And.intro (fun (h1 : ((r_X8_followTask x1 N σ).1) = 0) => ?_) (fun (h1 : ¬ ((r_X8_followTask x1 N σ).1) = 0) => ?_)
  · exact And.intro rfl (And.intro rfl ⟨by rw [r_X8_suits, if_pos h1] <;> rfl, by rw [r_X8_suits, if_pos h1] <;> rfl⟩)
  · refine And.intro (fun (h2 : ((u_X8_suits_1 x1 N σ).1 384 3) ≤ 12) => ?_) (fun (h2 : ¬ ((u_X8_suits_1 x1 N σ).1 384 3) ≤ 12) => ?_)
    · exact And.intro rfl (And.intro rfl ⟨by rw [r_X8_suits, if_neg h1, if_pos h2] <;> rfl, by rw [r_X8_suits, if_neg h1, if_pos h2] <;> rfl⟩)
    · exact And.intro rfl (And.intro rfl ⟨by rw [r_X8_suits, if_neg h1, if_neg h2] <;> rfl, by rw [r_X8_suits, if_neg h1, if_neg h2] <;> rfl⟩)
def u_X8_law_h0_1 (N : Nat) (a1 : Nat) (v2 : Int32) (v3 : Int32) (σ : zS) : zS := (r_X8_followTask v3 N σ).2
def l_X8_law (N : Nat) : Nat → Nat → Int32 → Int32 → zS → Int32 × zS
  | 0, _, _, _, σ => (0, σ)
  | n + 1, a1, v2, v3, σ => if (σ.1 (σ.2 0 5 - 1) 7) ≤ v3 then (v2, σ) else (if (σ.1 (f_X4_taskAt a1 v3 σ) 1) = 2 then (if ((r_X8_followTask v3 N σ).1) = 0 then (l_X8_law N n a1 v2 (v3 + 1) (u_X8_law_h0_1 N a1 v2 v3 σ)) else (if ((u_X8_law_h0_1 N a1 v2 v3 σ).1 385 3) = ((u_X8_law_h0_1 N a1 v2 v3 σ).1 ((f_X4_taskAt a1 v3 σ) + 1) 3) then (l_X8_law N n a1 v2 (v3 + 1) (u_X8_law_h0_1 N a1 v2 v3 σ)) else (l_X8_law N n a1 (v2 + 1) (v3 + 1) (u_X8_law_h0_1 N a1 v2 v3 σ)))) else (l_X8_law N n a1 v2 (v3 + 1) σ))
def q_X8_law (N : Nat) : Nat → Nat → Int32 → Int32 → zS → Prop
  | 0, _, _, _, _ => False
  | n + 1, a1, v2, v3, σ => (σ.2 0 5 ≠ 0 ∧ zlay (σ.2 0 5 - 1) = (2, 16)) ∧ (¬ (σ.1 (σ.2 0 5 - 1) 7) ≤ v3 → (p_X4_taskAt a1 v3 σ ∧ ((¬ (σ.1 (f_X4_taskAt a1 v3 σ) 1) = 2 → q_X8_law N n a1 v2 (v3 + 1) σ) ∧ ((σ.1 (f_X4_taskAt a1 v3 σ) 1) = 2 → (p_X8_followTask v3 N σ ∧ ((((r_X8_followTask v3 N σ).1) = 0 → q_X8_law N n a1 v2 (v3 + 1) (u_X8_law_h0_1 N a1 v2 v3 σ)) ∧ (¬ ((r_X8_followTask v3 N σ).1) = 0 → ((((u_X8_law_h0_1 N a1 v2 v3 σ).1 385 3) = ((u_X8_law_h0_1 N a1 v2 v3 σ).1 ((f_X4_taskAt a1 v3 σ) + 1) 3) → q_X8_law N n a1 v2 (v3 + 1) (u_X8_law_h0_1 N a1 v2 v3 σ)) ∧ (¬ ((u_X8_law_h0_1 N a1 v2 v3 σ).1 385 3) = ((u_X8_law_h0_1 N a1 v2 v3 σ).1 ((f_X4_taskAt a1 v3 σ) + 1) 3) → q_X8_law N n a1 (v2 + 1) (v3 + 1) (u_X8_law_h0_1 N a1 v2 v3 σ))))))))))
set_option maxRecDepth 100000 in
set_option maxHeartbeats 1000000 in
theorem w_X8_law {nx : Nat} (N : Nat) : ∀ n : Nat, (∀ (a1 : Nat) (v2 : Int32) (v3 : Int32) (σ : zS), q_X8_law N n a1 v2 v3 σ → zWp 8 zall nx 136 (fun v σ1 => v = some (.inl ((l_X8_law N n a1 v2 v3 σ).1)) ∧ σ1 = (l_X8_law N n a1 v2 v3 σ).2) zall nx 15 [some (.inr (8, 16, 0)), some (.inr (4, 17, a1)), some (.inl v2), some (.inl v3), none] [] σ) := by
  intro n
  induction n with
  | zero => exact fun _ _ _ _ h => h.elim
  | succ n ih =>
    intro a1 v2 v3 σ hp
    rw [q_X8_law] at hp
    refine zvc_sound (cd := kX8_law) (cs := [15]) rfl okX8_law 1000 _ _ 15 (zseek kX8_law 15) _ _ _ zseek_sub ?_
    refine And.intro hp.1.1 (fun q901 (e1 : σ.2 0 5 = q901 + 1) => ?_)
    have g1 : q901 = (σ.2 0 5 - 1) := by omega
    subst g1
    rw [hp.1.2]
    refine And.intro (fun (h2 : (σ.1 (σ.2 0 5 - 1) 7) ≤ v3) => ?_) (fun (h2 : ¬ (σ.1 (σ.2 0 5 - 1) 7) ≤ v3) => ?_)
    · exact And.intro rfl (And.intro rfl ⟨by rw [l_X8_law, if_pos h2] <;> rfl, by rw [l_X8_law, if_pos h2] <;> rfl⟩)
    · refine zCl.use (c_X4_taskAt a1 v3 σ (hp.2 h2).1) (Nat.le_of_ble_eq_true rfl) ?_
      rintro _ σz ⟨rfl, hz⟩
      subst σz
      refine And.intro (fun (h3 : ¬ (σ.1 (f_X4_taskAt a1 v3 σ) 1) = 2) => ?_) (fun (h3 : (σ.1 (f_X4_taskAt a1 v3 σ) 1) = 2) => ?_)
      · refine zWp.use (ih a1 v2 (v3 + 1) σ ((hp.2 h2).2.1 h3)) (And.intro rfl (And.intro rfl (And.intro rfl (And.intro rfl trivial)))) (fun vy σy hy => ?_)
        rw [l_X8_law, if_neg h2, if_neg h3]; exact hy
      · refine zCl.use (c_X8_followTask v3 N σ ((hp.2 h2).2.2 h3).1) (Nat.le_of_ble_eq_true rfl) ?_
        rintro _ σz ⟨rfl, hz⟩
        subst σz
        refine And.intro (fun (h4 : ((r_X8_followTask v3 N σ).1) = 0) => ?_) (fun (h4 : ¬ ((r_X8_followTask v3 N σ).1) = 0) => ?_)
        · refine zWp.use (ih a1 v2 (v3 + 1) (u_X8_law_h0_1 N a1 v2 v3 σ) (((hp.2 h2).2.2 h3).2.1 h4)) (And.intro rfl (And.intro rfl (And.intro rfl (And.intro rfl trivial)))) (fun vy σy hy => ?_)
          rw [l_X8_law, if_neg h2, if_pos h3, if_pos h4]; exact hy
        · refine And.intro (fun (h5 : ((u_X8_law_h0_1 N a1 v2 v3 σ).1 385 3) = ((u_X8_law_h0_1 N a1 v2 v3 σ).1 ((f_X4_taskAt a1 v3 σ) + 1) 3)) => ?_) (fun (h5 : ¬ ((u_X8_law_h0_1 N a1 v2 v3 σ).1 385 3) = ((u_X8_law_h0_1 N a1 v2 v3 σ).1 ((f_X4_taskAt a1 v3 σ) + 1) 3)) => ?_)
          · refine zWp.use (ih a1 v2 (v3 + 1) (u_X8_law_h0_1 N a1 v2 v3 σ) ((((hp.2 h2).2.2 h3).2.2 h4).1 h5)) (And.intro rfl (And.intro rfl (And.intro rfl (And.intro rfl trivial)))) (fun vy σy hy => ?_)
            rw [l_X8_law, if_neg h2, if_pos h3, if_neg h4, if_pos h5]; exact hy
          · refine zWp.use (ih a1 (v2 + 1) (v3 + 1) (u_X8_law_h0_1 N a1 v2 v3 σ) ((((hp.2 h2).2.2 h3).2.2 h4).2 h5)) (And.intro rfl (And.intro rfl (And.intro rfl (And.intro rfl trivial)))) (fun vy σy hy => ?_)
            rw [l_X8_law, if_neg h2, if_pos h3, if_neg h4, if_neg h5]; exact hy
def r_X8_law (N : Nat) (σ : zS) : Int32 × zS := l_X8_law N N (f_X1_now σ) (f_X4_windowsAstray (f_X1_now σ) N σ) 0 σ
def p_X8_law (N : Nat) (σ : zS) : Prop := p_X1_now σ ∧ (p_X4_windowsAstray (f_X1_now σ) N σ ∧ q_X8_law N N (f_X1_now σ) (f_X4_windowsAstray (f_X1_now σ) N σ) 0 σ)
set_option maxRecDepth 100000 in
set_option maxHeartbeats 1000000 in
theorem c_X8_law {nx : Nat} (N : Nat) (σ : zS) (hp : p_X8_law N σ) : zCl 8 zall nx zall nx 136 [.inr (8, 16, 0)] σ (fun v σ1 => v = some (.inl ((r_X8_law N σ).1)) ∧ σ1 = (r_X8_law N σ).2) := by
  refine zmeth (cd := kX8_law) [15] 1000 (Nat.le_of_ble_eq_true rfl) rfl okX8_law (Nat.le_refl _) (Nat.le_of_ble_eq_true rfl) ?_
  refine zCl.use (c_X1_now σ hp.1) (Nat.le_of_ble_eq_true rfl) ?_
  rintro _ σz ⟨rfl, hz⟩
  subst σz
  refine zCl.use (c_X4_windowsAstray (f_X1_now σ) N σ hp.2.1) (Nat.le_of_ble_eq_true rfl) ?_
  rintro _ σz ⟨rfl, hz⟩
  subst σz
  refine zWp.use ((w_X8_law N N) (f_X1_now σ) (f_X4_windowsAstray (f_X1_now σ) N σ) 0 σ hp.2.2) (And.intro rfl (And.intro rfl (And.intro rfl (And.intro rfl trivial)))) (fun vy σy hy => ?_)
  rw [r_X8_law]; exact hy
def u_X9_goBehind_h0_1 (N : Nat) (v1 : Int32) (v2 : Int32) (σ : zS) : zS := s_X9_push v2 0 0 σ
def u_X9_goBehind_h0_2 (N : Nat) (v1 : Int32) (v2 : Int32) (σ : zS) : zS := s_X9_scan N (u_X9_goBehind_h0_1 N v1 v2 σ)
def u_X9_goBehind_h0_3 (N : Nat) (v1 : Int32) (v2 : Int32) (σ : zS) : zS := zuI (u_X9_goBehind_h0_2 N v1 v2 σ) 468 39 1
def u_X9_goBehind_h0_4 (N : Nat) (v1 : Int32) (v2 : Int32) (σ : zS) : zS := s_X9_push v2 0 0 σ
def u_X9_goBehind_h0_5 (N : Nat) (v1 : Int32) (v2 : Int32) (σ : zS) : zS := s_X9_scan N (u_X9_goBehind_h0_4 N v1 v2 σ)
def u_X9_goBehind_h0_6 (N : Nat) (v1 : Int32) (v2 : Int32) (σ : zS) : zS := zuI (u_X9_goBehind_h0_5 N v1 v2 σ) 468 39 1
def u_X9_goBehind_h0_7 (N : Nat) (v1 : Int32) (v2 : Int32) (σ : zS) : zS := s_X9_layTop v1 σ
def u_X9_goBehind_h1_1 (N : Nat) (v1 : Int32) (v2 : Int32) (σ : zS) : zS := s_X9_endSum v1 N σ
def u_X9_goBehind_h1_2 (N : Nat) (v1 : Int32) (v2 : Int32) (σ : zS) : zS := s_X9_layTop v1 σ
def l_X9_goBehind (N : Nat) : Nat → Nat → Int32 → Int32 → zS → zS
  | 0, _, _, _, σ => σ
  | n + 1, 0, v1, v2, σ => if (σ.1 468 37) ≤ 0 then (u_X9_goBehind_h0_3 N v1 v2 σ) else (if (f_X9_bindsBy (f_X9_top σ)) < (f_X9_bindsBy v2) then (u_X9_goBehind_h0_6 N v1 v2 σ) else (l_X9_goBehind N n 0 v1 v2 (u_X9_goBehind_h0_7 N v1 v2 σ)))
  | n + 1, 1, v1, v2, σ => if (f_X9_bindsBy (f_X9_top σ)) ≤ 0 then (u_X9_goBehind_h1_1 N v1 v2 σ) else (l_X9_goBehind N n 1 v1 v2 (u_X9_goBehind_h1_2 N v1 v2 σ))
  | _ + 1, _, _, _, σ => σ
def q_X9_goBehind (N : Nat) : Nat → Nat → Int32 → Int32 → zS → Prop
  | 0, _, _, _, _ => False
  | n + 1, 0, v1, v2, σ => ((σ.1 468 37) ≤ 0 → (p_X9_push v2 0 0 σ ∧ p_X9_scan N (u_X9_goBehind_h0_1 N v1 v2 σ))) ∧ (¬ (σ.1 468 37) ≤ 0 → (p_X9_top σ ∧ (((f_X9_bindsBy (f_X9_top σ)) < (f_X9_bindsBy v2) → (p_X9_push v2 0 0 σ ∧ p_X9_scan N (u_X9_goBehind_h0_4 N v1 v2 σ))) ∧ (¬ (f_X9_bindsBy (f_X9_top σ)) < (f_X9_bindsBy v2) → (p_X9_layTop v1 σ ∧ q_X9_goBehind N n 0 v1 v2 (u_X9_goBehind_h0_7 N v1 v2 σ))))))
  | n + 1, 1, v1, v2, σ => p_X9_top σ ∧ (((f_X9_bindsBy (f_X9_top σ)) ≤ 0 → p_X9_endSum v1 N σ) ∧ (¬ (f_X9_bindsBy (f_X9_top σ)) ≤ 0 → (p_X9_layTop v1 σ ∧ q_X9_goBehind N n 1 v1 v2 (u_X9_goBehind_h1_2 N v1 v2 σ))))
  | _ + 1, _, _, _, _ => False
set_option maxRecDepth 100000 in
set_option maxHeartbeats 1000000 in
theorem w_X9_goBehind {nx : Nat} (N : Nat) : ∀ n : Nat, (∀ (v1 : Int32) (v2 : Int32) (σ : zS), q_X9_goBehind N n 0 v1 v2 σ → zWp 8 zall nx 197 (fun v σ1 => v = none ∧ σ1 = l_X9_goBehind N n 0 v1 v2 σ) zall nx 10 [some (.inr (9, 57, 468)), some (.inl v1), some (.inl v2)] [] σ) ∧ (∀ (v1 : Int32) (v2 : Int32) (σ : zS), q_X9_goBehind N n 1 v1 v2 σ → zWp 8 zall nx 197 (fun v σ1 => v = none ∧ σ1 = l_X9_goBehind N n 1 v1 v2 σ) zall nx 56 [some (.inr (9, 57, 468)), some (.inl v1), some (.inl v2)] [] σ) := by
  intro n
  induction n with
  | zero => exact ⟨fun _ _ _ h => h.elim, fun _ _ _ h => h.elim⟩
  | succ n ih =>
    refine ⟨?_, ?_⟩
    · intro v1 v2 σ hp
      rw [q_X9_goBehind] at hp
      refine zvc_sound (cd := kX9_goBehind) (cs := [10, 56]) rfl okX9_goBehind 1000 _ _ 10 (zseek kX9_goBehind 10) _ _ _ zseek_sub ?_
      refine And.intro (fun (h1 : (σ.1 468 37) ≤ 0) => ?_) (fun (h1 : ¬ (σ.1 468 37) ≤ 0) => ?_)
      · refine zCl.use (c_X9_push v2 0 0 σ (hp.1 h1).1) (Nat.le_of_ble_eq_true rfl) ?_
        rintro _ σz ⟨rfl, hz⟩
        subst σz
        refine zCl.use (c_X9_scan N (u_X9_goBehind_h0_1 N v1 v2 σ) (hp.1 h1).2) (Nat.le_of_ble_eq_true rfl) ?_
        rintro _ σz ⟨rfl, hz⟩
        subst σz
        exact And.intro rfl (And.intro rfl ⟨rfl, by rw [l_X9_goBehind, if_pos h1] <;> rfl⟩)
      · refine zCl.use (c_X9_top σ (hp.2 h1).1) (Nat.le_of_ble_eq_true rfl) ?_
        rintro _ σz ⟨rfl, hz⟩
        subst σz
        refine zCl.use (c_X9_bindsBy (f_X9_top σ) σ) (Nat.le_of_ble_eq_true rfl) ?_
        rintro _ σz ⟨rfl, hz⟩
        subst σz
        refine zCl.use (c_X9_bindsBy v2 σ) (Nat.le_of_ble_eq_true rfl) ?_
        rintro _ σz ⟨rfl, hz⟩
        subst σz
        refine And.intro (fun (h2 : (f_X9_bindsBy (f_X9_top σ)) < (f_X9_bindsBy v2)) => ?_) (fun (h2 : ¬ (f_X9_bindsBy (f_X9_top σ)) < (f_X9_bindsBy v2)) => ?_)
        · refine zCl.use (c_X9_push v2 0 0 σ ((hp.2 h1).2.1 h2).1) (Nat.le_of_ble_eq_true rfl) ?_
          rintro _ σz ⟨rfl, hz⟩
          subst σz
          refine zCl.use (c_X9_scan N (u_X9_goBehind_h0_4 N v1 v2 σ) ((hp.2 h1).2.1 h2).2) (Nat.le_of_ble_eq_true rfl) ?_
          rintro _ σz ⟨rfl, hz⟩
          subst σz
          exact And.intro rfl (And.intro rfl ⟨rfl, by rw [l_X9_goBehind, if_neg h1, if_pos h2] <;> rfl⟩)
        · refine zCl.use (c_X9_layTop v1 σ ((hp.2 h1).2.2 h2).1) (Nat.le_of_ble_eq_true rfl) ?_
          rintro _ σz ⟨rfl, hz⟩
          subst σz
          refine zWp.use (ih.1 v1 v2 (u_X9_goBehind_h0_7 N v1 v2 σ) ((hp.2 h1).2.2 h2).2) (And.intro rfl (And.intro rfl (And.intro rfl trivial))) (fun vy σy hy => ?_)
          rw [l_X9_goBehind, if_neg h1, if_neg h2]; exact hy
    · intro v1 v2 σ hp
      rw [q_X9_goBehind] at hp
      refine zvc_sound (cd := kX9_goBehind) (cs := [10, 56]) rfl okX9_goBehind 1000 _ _ 56 (zseek kX9_goBehind 56) _ _ _ zseek_sub ?_
      refine zCl.use (c_X9_top σ hp.1) (Nat.le_of_ble_eq_true rfl) ?_
      rintro _ σz ⟨rfl, hz⟩
      subst σz
      refine zCl.use (c_X9_bindsBy (f_X9_top σ) σ) (Nat.le_of_ble_eq_true rfl) ?_
      rintro _ σz ⟨rfl, hz⟩
      subst σz
      refine And.intro (fun (h1 : (f_X9_bindsBy (f_X9_top σ)) ≤ 0) => ?_) (fun (h1 : ¬ (f_X9_bindsBy (f_X9_top σ)) ≤ 0) => ?_)
      · refine zCl.use (c_X9_endSum v1 N σ (hp.2.1 h1)) (Nat.le_of_ble_eq_true rfl) ?_
        rintro _ σz ⟨rfl, hz⟩
        subst σz
        exact And.intro rfl (And.intro rfl ⟨rfl, by rw [l_X9_goBehind, if_pos h1] <;> rfl⟩)
      · refine zCl.use (c_X9_layTop v1 σ (hp.2.2 h1).1) (Nat.le_of_ble_eq_true rfl) ?_
        rintro _ σz ⟨rfl, hz⟩
        subst σz
        refine zWp.use (ih.2 v1 v2 (u_X9_goBehind_h1_2 N v1 v2 σ) (hp.2.2 h1).2) (And.intro rfl (And.intro rfl (And.intro rfl trivial))) (fun vy σy hy => ?_)
        rw [l_X9_goBehind, if_neg h1]; exact hy
def s_X9_goBehind (x1 : Int32) (N : Nat) (σ : zS) : zS := if (f_X9_between σ) = (-1) then (l_X9_goBehind N N 1 x1 (f_X9_between σ) σ) else (l_X9_goBehind N N 0 x1 (f_X9_between σ) σ)
def p_X9_goBehind (x1 : Int32) (N : Nat) (σ : zS) : Prop := p_X9_between σ ∧ (((f_X9_between σ) = (-1) → q_X9_goBehind N N 1 x1 (f_X9_between σ) σ) ∧ (¬ (f_X9_between σ) = (-1) → q_X9_goBehind N N 0 x1 (f_X9_between σ) σ))
set_option maxRecDepth 100000 in
set_option maxHeartbeats 1000000 in
theorem c_X9_goBehind {nx : Nat} (x1 : Int32) (N : Nat) (σ : zS) (hp : p_X9_goBehind x1 N σ) : zCl 8 zall nx zall nx 197 [.inr (9, 57, 468), .inl x1] σ (fun v σ1 => v = none ∧ σ1 = s_X9_goBehind x1 N σ) := by
  refine zmeth (cd := kX9_goBehind) [10, 56] 1000 (Nat.le_of_ble_eq_true rfl) rfl okX9_goBehind (Nat.le_refl _) (Nat.le_of_ble_eq_true rfl) ?_
  refine zCl.use (c_X9_between σ hp.1) (Nat.le_of_ble_eq_true rfl) ?_
  rintro _ σz ⟨rfl, hz⟩
  subst σz
  refine And.intro (fun (h1 : (f_X9_between σ) = (-1)) => ?_) (fun (h1 : ¬ (f_X9_between σ) = (-1)) => ?_)
  · refine zWp.use ((w_X9_goBehind N N).2 x1 (f_X9_between σ) σ (hp.2.1 h1)) (And.intro rfl (And.intro rfl (And.intro rfl trivial))) (fun vy σy hy => ?_)
    rw [s_X9_goBehind, if_pos h1]; exact hy
  · refine zWp.use ((w_X9_goBehind N N).1 x1 (f_X9_between σ) σ (hp.2.2 h1)) (And.intro rfl (And.intro rfl (And.intro rfl trivial))) (fun vy σy hy => ?_)
    rw [s_X9_goBehind, if_neg h1]; exact hy
def u_X3_readFirstTold_1 (x1 : Int32) (N : Nat) (σ : zS) : zS := zuI σ 2 4 ((σ.1 2 4) ||| x1)
def u_X3_readFirstTold_2 (x1 : Int32) (N : Nat) (σ : zS) : zS := s_X6_next N (u_X3_readFirstTold_1 x1 N σ)
def u_X3_readFirstTold_3 (x1 : Int32) (N : Nat) (σ : zS) : zS := (r_X3_refuse 3 (σ.1 3 3) σ).2
def r_X3_readFirstTold (x1 : Int32) (N : Nat) (σ : zS) : Int32 × zS := if ((σ.1 2 4) &&& x1) = 0 then (1, (u_X3_readFirstTold_2 x1 N σ)) else ((r_X3_refuse 3 (σ.1 3 3) σ).1, (u_X3_readFirstTold_3 x1 N σ))
def p_X3_readFirstTold (x1 : Int32) (N : Nat) (σ : zS) : Prop := ((σ.1 2 4) &&& x1) = 0 → p_X6_next N (u_X3_readFirstTold_1 x1 N σ)
set_option maxRecDepth 100000 in
set_option maxHeartbeats 1000000 in
theorem c_X3_readFirstTold {nx : Nat} (x1 : Int32) (N : Nat) (σ : zS) (hp : p_X3_readFirstTold x1 N σ) : zCl 9 zall nx zall nx 33 [.inr (3, 12, 2), .inl x1] σ (fun v σ1 => v = some (.inl ((r_X3_readFirstTold x1 N σ).1)) ∧ σ1 = (r_X3_readFirstTold x1 N σ).2) := by
  refine zmeth (cd := kX3_readFirstTold) [] 1000 (Nat.le_of_ble_eq_true rfl) rfl okX3_readFirstTold (Nat.le_refl _) (Nat.le_of_ble_eq_true rfl) ?_
  refine And.intro (fun (h1 : ((σ.1 2 4) &&& x1) = 0) => ?_) (fun (h1 : ¬ ((σ.1 2 4) &&& x1) = 0) => ?_)
  · refine zCl.use (c_X6_next N (u_X3_readFirstTold_1 x1 N σ) (hp h1)) (Nat.le_of_ble_eq_true rfl) ?_
    rintro _ σz ⟨rfl, hz⟩
    subst σz
    exact And.intro rfl (And.intro rfl (And.intro (Or.inr rfl) ⟨by rw [r_X3_readFirstTold, if_pos h1] <;> rfl, by rw [r_X3_readFirstTold, if_pos h1] <;> rfl⟩))
  · refine zCl.use (c_X3_refuse 3 (σ.1 3 3) σ) (Nat.le_of_ble_eq_true rfl) ?_
    rintro _ σz ⟨rfl, hz⟩
    subst σz
    exact And.intro rfl (And.intro rfl (And.intro b_X3_refuse ⟨by rw [r_X3_readFirstTold, if_neg h1] <;> rfl, by rw [r_X3_readFirstTold, if_neg h1] <;> rfl⟩))
theorem b_X3_readFirstTold {x1 : Int32} {N : Nat} {σ : zS} : (r_X3_readFirstTold x1 N σ).1 = 0 ∨ (r_X3_readFirstTold x1 N σ).1 = 1 := by
  unfold r_X3_readFirstTold
  (repeat' split) <;> first | exact Or.inl rfl | exact Or.inr rfl | exact b_X3_refuse
