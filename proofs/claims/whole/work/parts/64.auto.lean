/-! the reader's recursion: each method over what the others do (G) and ask (P) -/
def gnum (i : Nat) : Nat := match i with
  | 0 => 44
  | 1 => 45
  | 2 => 46
  | 3 => 47
  | 4 => 48
  | _ => 49
def gargs (i : Nat) (x y : Int32) : List zV := match i with
  | 0 => [.inr (3, 12, 2), .inl x]
  | 1 => [.inr (3, 12, 2), .inl x]
  | 2 => [.inr (3, 12, 2), .inl x]
  | 3 => [.inr (3, 12, 2), .inl x]
  | _ => [.inr (3, 12, 2), .inl x, .inl y]
def zGp (d nx : Nat) (G : Nat → Int32 → Int32 → zS → Int32 × zS) (P : Nat → Int32 → Int32 → zS → Prop) : Prop := ∀ (i : Nat) (x y : Int32) (σ : zS), P i x y σ → zCl d zall nx zall nx (gnum i) (gargs i x y) σ (fun v σ1 => v = some (.inl (G i x y σ).1) ∧ σ1 = (G i x y σ).2)
def u_X3_readFormula_h0_1 (G : Nat → Int32 → Int32 → zS → Int32 × zS) (N : Nat) (v1 : Int32) (v2 : Int32) (v3 : Int32) (v4 : Int32) (v5 : Int32) (σ : zS) : zS := (r_X3_refuse 5 (σ.1 3 3) σ).2
def u_X3_readFormula_h1_1 (G : Nat → Int32 → Int32 → zS → Int32 × zS) (N : Nat) (v1 : Int32) (v2 : Int32) (v3 : Int32) (v4 : Int32) (v5 : Int32) (σ : zS) : zS := s_X6_next N σ
def u_X3_readFormula_h1_2 (G : Nat → Int32 → Int32 → zS → Int32 × zS) (N : Nat) (v1 : Int32) (v2 : Int32) (v3 : Int32) (v4 : Int32) (v5 : Int32) (σ : zS) : zS := (G 1 (v1 + 1) 0 (u_X3_readFormula_h1_1 G N v1 v2 v3 v4 v5 σ)).2
def u_X3_readFormula_h1_3 (G : Nat → Int32 → Int32 → zS → Int32 × zS) (N : Nat) (v1 : Int32) (v2 : Int32) (v3 : Int32) (v4 : Int32) (v5 : Int32) (σ : zS) : zS := (r_X2_emit ((u_X3_readFormula_h1_2 G N v1 v2 v3 v4 v5 σ).2 2 1 - 1) 10 0 (u_X3_readFormula_h1_2 G N v1 v2 v3 v4 v5 σ)).2
def u_X3_readFormula_h1_4 (G : Nat → Int32 → Int32 → zS → Int32 × zS) (N : Nat) (v1 : Int32) (v2 : Int32) (v3 : Int32) (v4 : Int32) (v5 : Int32) (σ : zS) : zS := (r_X3_readSign 321 N (u_X3_readFormula_h1_3 G N v1 v2 v3 v4 v5 σ)).2
def u_X3_readFormula_h1_5 (G : Nat → Int32 → Int32 → zS → Int32 × zS) (N : Nat) (v1 : Int32) (v2 : Int32) (v3 : Int32) (v4 : Int32) (v5 : Int32) (σ : zS) : zS := (G 0 (v1 + 1) 0 (u_X3_readFormula_h1_4 G N v1 v2 v3 v4 v5 σ)).2
def u_X3_readFormula_h1_6 (G : Nat → Int32 → Int32 → zS → Int32 × zS) (N : Nat) (v1 : Int32) (v2 : Int32) (v3 : Int32) (v4 : Int32) (v5 : Int32) (σ : zS) : zS := (r_X2_emit ((u_X3_readFormula_h1_5 G N v1 v2 v3 v4 v5 σ).2 2 1 - 1) 11 0 (u_X3_readFormula_h1_5 G N v1 v2 v3 v4 v5 σ)).2
def u_X3_readFormula_h1_7 (G : Nat → Int32 → Int32 → zS → Int32 × zS) (N : Nat) (v1 : Int32) (v2 : Int32) (v3 : Int32) (v4 : Int32) (v5 : Int32) (σ : zS) : zS := s_X8_put 400 (((u_X3_readFormula_h1_6 G N v1 v2 v3 v4 v5 σ).2 2 1 - 1) + 6) ((r_X2_emit ((u_X3_readFormula_h1_2 G N v1 v2 v3 v4 v5 σ).2 2 1 - 1) 10 0 (u_X3_readFormula_h1_2 G N v1 v2 v3 v4 v5 σ)).1) ((u_X3_readFormula_h1_6 G N v1 v2 v3 v4 v5 σ).1 ((u_X3_readFormula_h1_6 G N v1 v2 v3 v4 v5 σ).2 2 1 - 1) 9) (u_X3_readFormula_h1_6 G N v1 v2 v3 v4 v5 σ)
def u_X3_readFormula_h1_8 (G : Nat → Int32 → Int32 → zS → Int32 × zS) (N : Nat) (v1 : Int32) (v2 : Int32) (v3 : Int32) (v4 : Int32) (v5 : Int32) (σ : zS) : zS := (r_X3_readSign 322 N (u_X3_readFormula_h1_7 G N v1 v2 v3 v4 v5 σ)).2
def u_X3_readFormula_h1_9 (G : Nat → Int32 → Int32 → zS → Int32 × zS) (N : Nat) (v1 : Int32) (v2 : Int32) (v3 : Int32) (v4 : Int32) (v5 : Int32) (σ : zS) : zS := (G 0 (v1 + 1) 0 (u_X3_readFormula_h1_8 G N v1 v2 v3 v4 v5 σ)).2
def u_X3_readFormula_h1_10 (G : Nat → Int32 → Int32 → zS → Int32 × zS) (N : Nat) (v1 : Int32) (v2 : Int32) (v3 : Int32) (v4 : Int32) (v5 : Int32) (σ : zS) : zS := s_X8_put 400 (((u_X3_readFormula_h1_9 G N v1 v2 v3 v4 v5 σ).2 2 1 - 1) + 6) ((r_X2_emit ((u_X3_readFormula_h1_5 G N v1 v2 v3 v4 v5 σ).2 2 1 - 1) 11 0 (u_X3_readFormula_h1_5 G N v1 v2 v3 v4 v5 σ)).1) ((u_X3_readFormula_h1_9 G N v1 v2 v3 v4 v5 σ).1 ((u_X3_readFormula_h1_9 G N v1 v2 v3 v4 v5 σ).2 2 1 - 1) 9) (u_X3_readFormula_h1_9 G N v1 v2 v3 v4 v5 σ)
def u_X3_readFormula_h1_11 (G : Nat → Int32 → Int32 → zS → Int32 × zS) (N : Nat) (v1 : Int32) (v2 : Int32) (v3 : Int32) (v4 : Int32) (v5 : Int32) (σ : zS) : zS := (r_X2_emit ((u_X3_readFormula_h1_2 G N v1 v2 v3 v4 v5 σ).2 2 1 - 1) 9 0 (u_X3_readFormula_h1_2 G N v1 v2 v3 v4 v5 σ)).2
def u_X3_readFormula_h1_12 (G : Nat → Int32 → Int32 → zS → Int32 × zS) (N : Nat) (v1 : Int32) (v2 : Int32) (v3 : Int32) (v4 : Int32) (v5 : Int32) (σ : zS) : zS := (r_X3_readSign 321 N (u_X3_readFormula_h1_11 G N v1 v2 v3 v4 v5 σ)).2
def u_X3_readFormula_h1_13 (G : Nat → Int32 → Int32 → zS → Int32 × zS) (N : Nat) (v1 : Int32) (v2 : Int32) (v3 : Int32) (v4 : Int32) (v5 : Int32) (σ : zS) : zS := (G 0 (v1 + 1) 0 (u_X3_readFormula_h1_12 G N v1 v2 v3 v4 v5 σ)).2
def u_X3_readFormula_h1_14 (G : Nat → Int32 → Int32 → zS → Int32 × zS) (N : Nat) (v1 : Int32) (v2 : Int32) (v3 : Int32) (v4 : Int32) (v5 : Int32) (σ : zS) : zS := (r_X2_emit ((u_X3_readFormula_h1_13 G N v1 v2 v3 v4 v5 σ).2 2 1 - 1) 11 0 (u_X3_readFormula_h1_13 G N v1 v2 v3 v4 v5 σ)).2
def u_X3_readFormula_h1_15 (G : Nat → Int32 → Int32 → zS → Int32 × zS) (N : Nat) (v1 : Int32) (v2 : Int32) (v3 : Int32) (v4 : Int32) (v5 : Int32) (σ : zS) : zS := s_X8_put 400 (((u_X3_readFormula_h1_14 G N v1 v2 v3 v4 v5 σ).2 2 1 - 1) + 6) ((r_X2_emit ((u_X3_readFormula_h1_2 G N v1 v2 v3 v4 v5 σ).2 2 1 - 1) 9 0 (u_X3_readFormula_h1_2 G N v1 v2 v3 v4 v5 σ)).1) ((u_X3_readFormula_h1_14 G N v1 v2 v3 v4 v5 σ).1 ((u_X3_readFormula_h1_14 G N v1 v2 v3 v4 v5 σ).2 2 1 - 1) 9) (u_X3_readFormula_h1_14 G N v1 v2 v3 v4 v5 σ)
def u_X3_readFormula_h1_16 (G : Nat → Int32 → Int32 → zS → Int32 × zS) (N : Nat) (v1 : Int32) (v2 : Int32) (v3 : Int32) (v4 : Int32) (v5 : Int32) (σ : zS) : zS := (r_X3_readSign 322 N (u_X3_readFormula_h1_15 G N v1 v2 v3 v4 v5 σ)).2
def u_X3_readFormula_h1_17 (G : Nat → Int32 → Int32 → zS → Int32 × zS) (N : Nat) (v1 : Int32) (v2 : Int32) (v3 : Int32) (v4 : Int32) (v5 : Int32) (σ : zS) : zS := (G 0 (v1 + 1) 0 (u_X3_readFormula_h1_16 G N v1 v2 v3 v4 v5 σ)).2
def u_X3_readFormula_h1_18 (G : Nat → Int32 → Int32 → zS → Int32 × zS) (N : Nat) (v1 : Int32) (v2 : Int32) (v3 : Int32) (v4 : Int32) (v5 : Int32) (σ : zS) : zS := s_X8_put 400 (((u_X3_readFormula_h1_17 G N v1 v2 v3 v4 v5 σ).2 2 1 - 1) + 6) ((r_X2_emit ((u_X3_readFormula_h1_13 G N v1 v2 v3 v4 v5 σ).2 2 1 - 1) 11 0 (u_X3_readFormula_h1_13 G N v1 v2 v3 v4 v5 σ)).1) ((u_X3_readFormula_h1_17 G N v1 v2 v3 v4 v5 σ).1 ((u_X3_readFormula_h1_17 G N v1 v2 v3 v4 v5 σ).2 2 1 - 1) 9) (u_X3_readFormula_h1_17 G N v1 v2 v3 v4 v5 σ)
def u_X3_readFormula_h1_19 (G : Nat → Int32 → Int32 → zS → Int32 × zS) (N : Nat) (v1 : Int32) (v2 : Int32) (v3 : Int32) (v4 : Int32) (v5 : Int32) (σ : zS) : zS := (r_X2_emit ((u_X3_readFormula_h1_2 G N v1 v2 v3 v4 v5 σ).2 2 1 - 1) 8 0 (u_X3_readFormula_h1_2 G N v1 v2 v3 v4 v5 σ)).2
def u_X3_readFormula_h1_20 (G : Nat → Int32 → Int32 → zS → Int32 × zS) (N : Nat) (v1 : Int32) (v2 : Int32) (v3 : Int32) (v4 : Int32) (v5 : Int32) (σ : zS) : zS := (r_X3_readSign 321 N (u_X3_readFormula_h1_19 G N v1 v2 v3 v4 v5 σ)).2
def u_X3_readFormula_h1_21 (G : Nat → Int32 → Int32 → zS → Int32 × zS) (N : Nat) (v1 : Int32) (v2 : Int32) (v3 : Int32) (v4 : Int32) (v5 : Int32) (σ : zS) : zS := (G 0 (v1 + 1) 0 (u_X3_readFormula_h1_20 G N v1 v2 v3 v4 v5 σ)).2
def u_X3_readFormula_h1_22 (G : Nat → Int32 → Int32 → zS → Int32 × zS) (N : Nat) (v1 : Int32) (v2 : Int32) (v3 : Int32) (v4 : Int32) (v5 : Int32) (σ : zS) : zS := (r_X2_emit ((u_X3_readFormula_h1_21 G N v1 v2 v3 v4 v5 σ).2 2 1 - 1) 11 0 (u_X3_readFormula_h1_21 G N v1 v2 v3 v4 v5 σ)).2
def u_X3_readFormula_h1_23 (G : Nat → Int32 → Int32 → zS → Int32 × zS) (N : Nat) (v1 : Int32) (v2 : Int32) (v3 : Int32) (v4 : Int32) (v5 : Int32) (σ : zS) : zS := s_X8_put 400 (((u_X3_readFormula_h1_22 G N v1 v2 v3 v4 v5 σ).2 2 1 - 1) + 6) ((r_X2_emit ((u_X3_readFormula_h1_2 G N v1 v2 v3 v4 v5 σ).2 2 1 - 1) 8 0 (u_X3_readFormula_h1_2 G N v1 v2 v3 v4 v5 σ)).1) ((u_X3_readFormula_h1_22 G N v1 v2 v3 v4 v5 σ).1 ((u_X3_readFormula_h1_22 G N v1 v2 v3 v4 v5 σ).2 2 1 - 1) 9) (u_X3_readFormula_h1_22 G N v1 v2 v3 v4 v5 σ)
def u_X3_readFormula_h1_24 (G : Nat → Int32 → Int32 → zS → Int32 × zS) (N : Nat) (v1 : Int32) (v2 : Int32) (v3 : Int32) (v4 : Int32) (v5 : Int32) (σ : zS) : zS := (r_X3_readSign 322 N (u_X3_readFormula_h1_23 G N v1 v2 v3 v4 v5 σ)).2
def u_X3_readFormula_h1_25 (G : Nat → Int32 → Int32 → zS → Int32 × zS) (N : Nat) (v1 : Int32) (v2 : Int32) (v3 : Int32) (v4 : Int32) (v5 : Int32) (σ : zS) : zS := (G 0 (v1 + 1) 0 (u_X3_readFormula_h1_24 G N v1 v2 v3 v4 v5 σ)).2
def u_X3_readFormula_h1_26 (G : Nat → Int32 → Int32 → zS → Int32 × zS) (N : Nat) (v1 : Int32) (v2 : Int32) (v3 : Int32) (v4 : Int32) (v5 : Int32) (σ : zS) : zS := s_X8_put 400 (((u_X3_readFormula_h1_25 G N v1 v2 v3 v4 v5 σ).2 2 1 - 1) + 6) ((r_X2_emit ((u_X3_readFormula_h1_21 G N v1 v2 v3 v4 v5 σ).2 2 1 - 1) 11 0 (u_X3_readFormula_h1_21 G N v1 v2 v3 v4 v5 σ)).1) ((u_X3_readFormula_h1_25 G N v1 v2 v3 v4 v5 σ).1 ((u_X3_readFormula_h1_25 G N v1 v2 v3 v4 v5 σ).2 2 1 - 1) 9) (u_X3_readFormula_h1_25 G N v1 v2 v3 v4 v5 σ)
def l_X3_readFormula (G : Nat → Int32 → Int32 → zS → Int32 × zS) (N : Nat) : Nat → Nat → Int32 → Int32 → Int32 → Int32 → Int32 → zS → Int32 × zS
  | 0, _, _, _, _, _, _, σ => (0, σ)
  | n + 1, 0, v1, v2, v3, v4, v5, σ => ((r_X3_refuse 5 (σ.1 3 3) σ).1, (u_X3_readFormula_h0_1 G N v1 v2 v3 v4 v5 σ))
  | n + 1, 1, v1, v2, v3, v4, v5, σ => if ((G 1 (v1 + 1) 0 (u_X3_readFormula_h1_1 G N v1 v2 v3 v4 v5 σ)).1) = 0 then (0, (u_X3_readFormula_h1_2 G N v1 v2 v3 v4 v5 σ)) else (if v2 = 60 then (if ((r_X3_readSign 321 N (u_X3_readFormula_h1_19 G N v1 v2 v3 v4 v5 σ)).1) = 0 then (l_X3_readFormula G N n 2 v1 v2 8 ((r_X2_emit ((u_X3_readFormula_h1_2 G N v1 v2 v3 v4 v5 σ).2 2 1 - 1) 8 0 (u_X3_readFormula_h1_2 G N v1 v2 v3 v4 v5 σ)).1) 0 (u_X3_readFormula_h1_20 G N v1 v2 v3 v4 v5 σ)) else (if ((G 0 (v1 + 1) 0 (u_X3_readFormula_h1_20 G N v1 v2 v3 v4 v5 σ)).1) = 0 then (l_X3_readFormula G N n 2 v1 v2 8 ((r_X2_emit ((u_X3_readFormula_h1_2 G N v1 v2 v3 v4 v5 σ).2 2 1 - 1) 8 0 (u_X3_readFormula_h1_2 G N v1 v2 v3 v4 v5 σ)).1) 0 (u_X3_readFormula_h1_21 G N v1 v2 v3 v4 v5 σ)) else (if ((r_X3_readSign 322 N (u_X3_readFormula_h1_23 G N v1 v2 v3 v4 v5 σ)).1) = 0 then (l_X3_readFormula G N n 3 v1 v2 8 ((r_X2_emit ((u_X3_readFormula_h1_2 G N v1 v2 v3 v4 v5 σ).2 2 1 - 1) 8 0 (u_X3_readFormula_h1_2 G N v1 v2 v3 v4 v5 σ)).1) ((r_X2_emit ((u_X3_readFormula_h1_21 G N v1 v2 v3 v4 v5 σ).2 2 1 - 1) 11 0 (u_X3_readFormula_h1_21 G N v1 v2 v3 v4 v5 σ)).1) (u_X3_readFormula_h1_24 G N v1 v2 v3 v4 v5 σ)) else (if ((G 0 (v1 + 1) 0 (u_X3_readFormula_h1_24 G N v1 v2 v3 v4 v5 σ)).1) = 0 then (l_X3_readFormula G N n 3 v1 v2 8 ((r_X2_emit ((u_X3_readFormula_h1_2 G N v1 v2 v3 v4 v5 σ).2 2 1 - 1) 8 0 (u_X3_readFormula_h1_2 G N v1 v2 v3 v4 v5 σ)).1) ((r_X2_emit ((u_X3_readFormula_h1_21 G N v1 v2 v3 v4 v5 σ).2 2 1 - 1) 11 0 (u_X3_readFormula_h1_21 G N v1 v2 v3 v4 v5 σ)).1) (u_X3_readFormula_h1_25 G N v1 v2 v3 v4 v5 σ)) else (1, (u_X3_readFormula_h1_26 G N v1 v2 v3 v4 v5 σ)))))) else (if v2 = 62 then (if ((r_X3_readSign 321 N (u_X3_readFormula_h1_11 G N v1 v2 v3 v4 v5 σ)).1) = 0 then (l_X3_readFormula G N n 2 v1 v2 9 ((r_X2_emit ((u_X3_readFormula_h1_2 G N v1 v2 v3 v4 v5 σ).2 2 1 - 1) 9 0 (u_X3_readFormula_h1_2 G N v1 v2 v3 v4 v5 σ)).1) 0 (u_X3_readFormula_h1_12 G N v1 v2 v3 v4 v5 σ)) else (if ((G 0 (v1 + 1) 0 (u_X3_readFormula_h1_12 G N v1 v2 v3 v4 v5 σ)).1) = 0 then (l_X3_readFormula G N n 2 v1 v2 9 ((r_X2_emit ((u_X3_readFormula_h1_2 G N v1 v2 v3 v4 v5 σ).2 2 1 - 1) 9 0 (u_X3_readFormula_h1_2 G N v1 v2 v3 v4 v5 σ)).1) 0 (u_X3_readFormula_h1_13 G N v1 v2 v3 v4 v5 σ)) else (if ((r_X3_readSign 322 N (u_X3_readFormula_h1_15 G N v1 v2 v3 v4 v5 σ)).1) = 0 then (l_X3_readFormula G N n 3 v1 v2 9 ((r_X2_emit ((u_X3_readFormula_h1_2 G N v1 v2 v3 v4 v5 σ).2 2 1 - 1) 9 0 (u_X3_readFormula_h1_2 G N v1 v2 v3 v4 v5 σ)).1) ((r_X2_emit ((u_X3_readFormula_h1_13 G N v1 v2 v3 v4 v5 σ).2 2 1 - 1) 11 0 (u_X3_readFormula_h1_13 G N v1 v2 v3 v4 v5 σ)).1) (u_X3_readFormula_h1_16 G N v1 v2 v3 v4 v5 σ)) else (if ((G 0 (v1 + 1) 0 (u_X3_readFormula_h1_16 G N v1 v2 v3 v4 v5 σ)).1) = 0 then (l_X3_readFormula G N n 3 v1 v2 9 ((r_X2_emit ((u_X3_readFormula_h1_2 G N v1 v2 v3 v4 v5 σ).2 2 1 - 1) 9 0 (u_X3_readFormula_h1_2 G N v1 v2 v3 v4 v5 σ)).1) ((r_X2_emit ((u_X3_readFormula_h1_13 G N v1 v2 v3 v4 v5 σ).2 2 1 - 1) 11 0 (u_X3_readFormula_h1_13 G N v1 v2 v3 v4 v5 σ)).1) (u_X3_readFormula_h1_17 G N v1 v2 v3 v4 v5 σ)) else (1, (u_X3_readFormula_h1_18 G N v1 v2 v3 v4 v5 σ)))))) else (if ((r_X3_readSign 321 N (u_X3_readFormula_h1_3 G N v1 v2 v3 v4 v5 σ)).1) = 0 then (l_X3_readFormula G N n 2 v1 v2 10 ((r_X2_emit ((u_X3_readFormula_h1_2 G N v1 v2 v3 v4 v5 σ).2 2 1 - 1) 10 0 (u_X3_readFormula_h1_2 G N v1 v2 v3 v4 v5 σ)).1) 0 (u_X3_readFormula_h1_4 G N v1 v2 v3 v4 v5 σ)) else (if ((G 0 (v1 + 1) 0 (u_X3_readFormula_h1_4 G N v1 v2 v3 v4 v5 σ)).1) = 0 then (l_X3_readFormula G N n 2 v1 v2 10 ((r_X2_emit ((u_X3_readFormula_h1_2 G N v1 v2 v3 v4 v5 σ).2 2 1 - 1) 10 0 (u_X3_readFormula_h1_2 G N v1 v2 v3 v4 v5 σ)).1) 0 (u_X3_readFormula_h1_5 G N v1 v2 v3 v4 v5 σ)) else (if ((r_X3_readSign 322 N (u_X3_readFormula_h1_7 G N v1 v2 v3 v4 v5 σ)).1) = 0 then (l_X3_readFormula G N n 3 v1 v2 10 ((r_X2_emit ((u_X3_readFormula_h1_2 G N v1 v2 v3 v4 v5 σ).2 2 1 - 1) 10 0 (u_X3_readFormula_h1_2 G N v1 v2 v3 v4 v5 σ)).1) ((r_X2_emit ((u_X3_readFormula_h1_5 G N v1 v2 v3 v4 v5 σ).2 2 1 - 1) 11 0 (u_X3_readFormula_h1_5 G N v1 v2 v3 v4 v5 σ)).1) (u_X3_readFormula_h1_8 G N v1 v2 v3 v4 v5 σ)) else (if ((G 0 (v1 + 1) 0 (u_X3_readFormula_h1_8 G N v1 v2 v3 v4 v5 σ)).1) = 0 then (l_X3_readFormula G N n 3 v1 v2 10 ((r_X2_emit ((u_X3_readFormula_h1_2 G N v1 v2 v3 v4 v5 σ).2 2 1 - 1) 10 0 (u_X3_readFormula_h1_2 G N v1 v2 v3 v4 v5 σ)).1) ((r_X2_emit ((u_X3_readFormula_h1_5 G N v1 v2 v3 v4 v5 σ).2 2 1 - 1) 11 0 (u_X3_readFormula_h1_5 G N v1 v2 v3 v4 v5 σ)).1) (u_X3_readFormula_h1_9 G N v1 v2 v3 v4 v5 σ)) else (1, (u_X3_readFormula_h1_10 G N v1 v2 v3 v4 v5 σ))))))))
  | n + 1, 2, v1, v2, v3, v4, v5, σ => (0, σ)
  | n + 1, 3, v1, v2, v3, v4, v5, σ => (0, σ)
  | _ + 1, _, _, _, _, _, _, σ => (0, σ)
def q_X3_readFormula (P : Nat → Int32 → Int32 → zS → Prop) (G : Nat → Int32 → Int32 → zS → Int32 × zS) (N : Nat) : Nat → Nat → Int32 → Int32 → Int32 → Int32 → Int32 → zS → Prop
  | 0, _, _, _, _, _, _, _ => False
  | n + 1, 0, v1, v2, v3, v4, v5, σ => True
  | n + 1, 1, v1, v2, v3, v4, v5, σ => p_X6_next N σ ∧ (P 1 (v1 + 1) 0 (u_X3_readFormula_h1_1 G N v1 v2 v3 v4 v5 σ) ∧ (¬ ((G 1 (v1 + 1) 0 (u_X3_readFormula_h1_1 G N v1 v2 v3 v4 v5 σ)).1) = 0 → ((¬ v2 = 60 → ((¬ v2 = 62 → (((u_X3_readFormula_h1_2 G N v1 v2 v3 v4 v5 σ).2 2 1 ≠ 0 ∧ zlay ((u_X3_readFormula_h1_2 G N v1 v2 v3 v4 v5 σ).2 2 1 - 1) = (2, 16)) ∧ (p_X2_emit ((u_X3_readFormula_h1_2 G N v1 v2 v3 v4 v5 σ).2 2 1 - 1) 10 0 (u_X3_readFormula_h1_2 G N v1 v2 v3 v4 v5 σ) ∧ (p_X3_readSign 321 N (u_X3_readFormula_h1_3 G N v1 v2 v3 v4 v5 σ) ∧ ((((r_X3_readSign 321 N (u_X3_readFormula_h1_3 G N v1 v2 v3 v4 v5 σ)).1) = 0 → q_X3_readFormula P G N n 2 v1 v2 10 ((r_X2_emit ((u_X3_readFormula_h1_2 G N v1 v2 v3 v4 v5 σ).2 2 1 - 1) 10 0 (u_X3_readFormula_h1_2 G N v1 v2 v3 v4 v5 σ)).1) 0 (u_X3_readFormula_h1_4 G N v1 v2 v3 v4 v5 σ)) ∧ (¬ ((r_X3_readSign 321 N (u_X3_readFormula_h1_3 G N v1 v2 v3 v4 v5 σ)).1) = 0 → (P 0 (v1 + 1) 0 (u_X3_readFormula_h1_4 G N v1 v2 v3 v4 v5 σ) ∧ ((¬ ((G 0 (v1 + 1) 0 (u_X3_readFormula_h1_4 G N v1 v2 v3 v4 v5 σ)).1) = 0 → (((u_X3_readFormula_h1_5 G N v1 v2 v3 v4 v5 σ).2 2 1 ≠ 0 ∧ zlay ((u_X3_readFormula_h1_5 G N v1 v2 v3 v4 v5 σ).2 2 1 - 1) = (2, 16)) ∧ (p_X2_emit ((u_X3_readFormula_h1_5 G N v1 v2 v3 v4 v5 σ).2 2 1 - 1) 11 0 (u_X3_readFormula_h1_5 G N v1 v2 v3 v4 v5 σ) ∧ (((u_X3_readFormula_h1_6 G N v1 v2 v3 v4 v5 σ).2 2 1 ≠ 0 ∧ zlay ((u_X3_readFormula_h1_6 G N v1 v2 v3 v4 v5 σ).2 2 1 - 1) = (2, 16)) ∧ (p_X8_put 400 (((u_X3_readFormula_h1_6 G N v1 v2 v3 v4 v5 σ).2 2 1 - 1) + 6) ((r_X2_emit ((u_X3_readFormula_h1_2 G N v1 v2 v3 v4 v5 σ).2 2 1 - 1) 10 0 (u_X3_readFormula_h1_2 G N v1 v2 v3 v4 v5 σ)).1) ((u_X3_readFormula_h1_6 G N v1 v2 v3 v4 v5 σ).1 ((u_X3_readFormula_h1_6 G N v1 v2 v3 v4 v5 σ).2 2 1 - 1) 9) (u_X3_readFormula_h1_6 G N v1 v2 v3 v4 v5 σ) ∧ (p_X3_readSign 322 N (u_X3_readFormula_h1_7 G N v1 v2 v3 v4 v5 σ) ∧ ((((r_X3_readSign 322 N (u_X3_readFormula_h1_7 G N v1 v2 v3 v4 v5 σ)).1) = 0 → q_X3_readFormula P G N n 3 v1 v2 10 ((r_X2_emit ((u_X3_readFormula_h1_2 G N v1 v2 v3 v4 v5 σ).2 2 1 - 1) 10 0 (u_X3_readFormula_h1_2 G N v1 v2 v3 v4 v5 σ)).1) ((r_X2_emit ((u_X3_readFormula_h1_5 G N v1 v2 v3 v4 v5 σ).2 2 1 - 1) 11 0 (u_X3_readFormula_h1_5 G N v1 v2 v3 v4 v5 σ)).1) (u_X3_readFormula_h1_8 G N v1 v2 v3 v4 v5 σ)) ∧ (¬ ((r_X3_readSign 322 N (u_X3_readFormula_h1_7 G N v1 v2 v3 v4 v5 σ)).1) = 0 → (P 0 (v1 + 1) 0 (u_X3_readFormula_h1_8 G N v1 v2 v3 v4 v5 σ) ∧ ((¬ ((G 0 (v1 + 1) 0 (u_X3_readFormula_h1_8 G N v1 v2 v3 v4 v5 σ)).1) = 0 → (((u_X3_readFormula_h1_9 G N v1 v2 v3 v4 v5 σ).2 2 1 ≠ 0 ∧ zlay ((u_X3_readFormula_h1_9 G N v1 v2 v3 v4 v5 σ).2 2 1 - 1) = (2, 16)) ∧ p_X8_put 400 (((u_X3_readFormula_h1_9 G N v1 v2 v3 v4 v5 σ).2 2 1 - 1) + 6) ((r_X2_emit ((u_X3_readFormula_h1_5 G N v1 v2 v3 v4 v5 σ).2 2 1 - 1) 11 0 (u_X3_readFormula_h1_5 G N v1 v2 v3 v4 v5 σ)).1) ((u_X3_readFormula_h1_9 G N v1 v2 v3 v4 v5 σ).1 ((u_X3_readFormula_h1_9 G N v1 v2 v3 v4 v5 σ).2 2 1 - 1) 9) (u_X3_readFormula_h1_9 G N v1 v2 v3 v4 v5 σ))) ∧ (((G 0 (v1 + 1) 0 (u_X3_readFormula_h1_8 G N v1 v2 v3 v4 v5 σ)).1) = 0 → q_X3_readFormula P G N n 3 v1 v2 10 ((r_X2_emit ((u_X3_readFormula_h1_2 G N v1 v2 v3 v4 v5 σ).2 2 1 - 1) 10 0 (u_X3_readFormula_h1_2 G N v1 v2 v3 v4 v5 σ)).1) ((r_X2_emit ((u_X3_readFormula_h1_5 G N v1 v2 v3 v4 v5 σ).2 2 1 - 1) 11 0 (u_X3_readFormula_h1_5 G N v1 v2 v3 v4 v5 σ)).1) (u_X3_readFormula_h1_9 G N v1 v2 v3 v4 v5 σ)))))))))))) ∧ (((G 0 (v1 + 1) 0 (u_X3_readFormula_h1_4 G N v1 v2 v3 v4 v5 σ)).1) = 0 → q_X3_readFormula P G N n 2 v1 v2 10 ((r_X2_emit ((u_X3_readFormula_h1_2 G N v1 v2 v3 v4 v5 σ).2 2 1 - 1) 10 0 (u_X3_readFormula_h1_2 G N v1 v2 v3 v4 v5 σ)).1) 0 (u_X3_readFormula_h1_5 G N v1 v2 v3 v4 v5 σ)))))))))) ∧ (v2 = 62 → (((u_X3_readFormula_h1_2 G N v1 v2 v3 v4 v5 σ).2 2 1 ≠ 0 ∧ zlay ((u_X3_readFormula_h1_2 G N v1 v2 v3 v4 v5 σ).2 2 1 - 1) = (2, 16)) ∧ (p_X2_emit ((u_X3_readFormula_h1_2 G N v1 v2 v3 v4 v5 σ).2 2 1 - 1) 9 0 (u_X3_readFormula_h1_2 G N v1 v2 v3 v4 v5 σ) ∧ (p_X3_readSign 321 N (u_X3_readFormula_h1_11 G N v1 v2 v3 v4 v5 σ) ∧ ((((r_X3_readSign 321 N (u_X3_readFormula_h1_11 G N v1 v2 v3 v4 v5 σ)).1) = 0 → q_X3_readFormula P G N n 2 v1 v2 9 ((r_X2_emit ((u_X3_readFormula_h1_2 G N v1 v2 v3 v4 v5 σ).2 2 1 - 1) 9 0 (u_X3_readFormula_h1_2 G N v1 v2 v3 v4 v5 σ)).1) 0 (u_X3_readFormula_h1_12 G N v1 v2 v3 v4 v5 σ)) ∧ (¬ ((r_X3_readSign 321 N (u_X3_readFormula_h1_11 G N v1 v2 v3 v4 v5 σ)).1) = 0 → (P 0 (v1 + 1) 0 (u_X3_readFormula_h1_12 G N v1 v2 v3 v4 v5 σ) ∧ ((¬ ((G 0 (v1 + 1) 0 (u_X3_readFormula_h1_12 G N v1 v2 v3 v4 v5 σ)).1) = 0 → (((u_X3_readFormula_h1_13 G N v1 v2 v3 v4 v5 σ).2 2 1 ≠ 0 ∧ zlay ((u_X3_readFormula_h1_13 G N v1 v2 v3 v4 v5 σ).2 2 1 - 1) = (2, 16)) ∧ (p_X2_emit ((u_X3_readFormula_h1_13 G N v1 v2 v3 v4 v5 σ).2 2 1 - 1) 11 0 (u_X3_readFormula_h1_13 G N v1 v2 v3 v4 v5 σ) ∧ (((u_X3_readFormula_h1_14 G N v1 v2 v3 v4 v5 σ).2 2 1 ≠ 0 ∧ zlay ((u_X3_readFormula_h1_14 G N v1 v2 v3 v4 v5 σ).2 2 1 - 1) = (2, 16)) ∧ (p_X8_put 400 (((u_X3_readFormula_h1_14 G N v1 v2 v3 v4 v5 σ).2 2 1 - 1) + 6) ((r_X2_emit ((u_X3_readFormula_h1_2 G N v1 v2 v3 v4 v5 σ).2 2 1 - 1) 9 0 (u_X3_readFormula_h1_2 G N v1 v2 v3 v4 v5 σ)).1) ((u_X3_readFormula_h1_14 G N v1 v2 v3 v4 v5 σ).1 ((u_X3_readFormula_h1_14 G N v1 v2 v3 v4 v5 σ).2 2 1 - 1) 9) (u_X3_readFormula_h1_14 G N v1 v2 v3 v4 v5 σ) ∧ (p_X3_readSign 322 N (u_X3_readFormula_h1_15 G N v1 v2 v3 v4 v5 σ) ∧ ((((r_X3_readSign 322 N (u_X3_readFormula_h1_15 G N v1 v2 v3 v4 v5 σ)).1) = 0 → q_X3_readFormula P G N n 3 v1 v2 9 ((r_X2_emit ((u_X3_readFormula_h1_2 G N v1 v2 v3 v4 v5 σ).2 2 1 - 1) 9 0 (u_X3_readFormula_h1_2 G N v1 v2 v3 v4 v5 σ)).1) ((r_X2_emit ((u_X3_readFormula_h1_13 G N v1 v2 v3 v4 v5 σ).2 2 1 - 1) 11 0 (u_X3_readFormula_h1_13 G N v1 v2 v3 v4 v5 σ)).1) (u_X3_readFormula_h1_16 G N v1 v2 v3 v4 v5 σ)) ∧ (¬ ((r_X3_readSign 322 N (u_X3_readFormula_h1_15 G N v1 v2 v3 v4 v5 σ)).1) = 0 → (P 0 (v1 + 1) 0 (u_X3_readFormula_h1_16 G N v1 v2 v3 v4 v5 σ) ∧ ((¬ ((G 0 (v1 + 1) 0 (u_X3_readFormula_h1_16 G N v1 v2 v3 v4 v5 σ)).1) = 0 → (((u_X3_readFormula_h1_17 G N v1 v2 v3 v4 v5 σ).2 2 1 ≠ 0 ∧ zlay ((u_X3_readFormula_h1_17 G N v1 v2 v3 v4 v5 σ).2 2 1 - 1) = (2, 16)) ∧ p_X8_put 400 (((u_X3_readFormula_h1_17 G N v1 v2 v3 v4 v5 σ).2 2 1 - 1) + 6) ((r_X2_emit ((u_X3_readFormula_h1_13 G N v1 v2 v3 v4 v5 σ).2 2 1 - 1) 11 0 (u_X3_readFormula_h1_13 G N v1 v2 v3 v4 v5 σ)).1) ((u_X3_readFormula_h1_17 G N v1 v2 v3 v4 v5 σ).1 ((u_X3_readFormula_h1_17 G N v1 v2 v3 v4 v5 σ).2 2 1 - 1) 9) (u_X3_readFormula_h1_17 G N v1 v2 v3 v4 v5 σ))) ∧ (((G 0 (v1 + 1) 0 (u_X3_readFormula_h1_16 G N v1 v2 v3 v4 v5 σ)).1) = 0 → q_X3_readFormula P G N n 3 v1 v2 9 ((r_X2_emit ((u_X3_readFormula_h1_2 G N v1 v2 v3 v4 v5 σ).2 2 1 - 1) 9 0 (u_X3_readFormula_h1_2 G N v1 v2 v3 v4 v5 σ)).1) ((r_X2_emit ((u_X3_readFormula_h1_13 G N v1 v2 v3 v4 v5 σ).2 2 1 - 1) 11 0 (u_X3_readFormula_h1_13 G N v1 v2 v3 v4 v5 σ)).1) (u_X3_readFormula_h1_17 G N v1 v2 v3 v4 v5 σ)))))))))))) ∧ (((G 0 (v1 + 1) 0 (u_X3_readFormula_h1_12 G N v1 v2 v3 v4 v5 σ)).1) = 0 → q_X3_readFormula P G N n 2 v1 v2 9 ((r_X2_emit ((u_X3_readFormula_h1_2 G N v1 v2 v3 v4 v5 σ).2 2 1 - 1) 9 0 (u_X3_readFormula_h1_2 G N v1 v2 v3 v4 v5 σ)).1) 0 (u_X3_readFormula_h1_13 G N v1 v2 v3 v4 v5 σ)))))))))))) ∧ (v2 = 60 → (((u_X3_readFormula_h1_2 G N v1 v2 v3 v4 v5 σ).2 2 1 ≠ 0 ∧ zlay ((u_X3_readFormula_h1_2 G N v1 v2 v3 v4 v5 σ).2 2 1 - 1) = (2, 16)) ∧ (p_X2_emit ((u_X3_readFormula_h1_2 G N v1 v2 v3 v4 v5 σ).2 2 1 - 1) 8 0 (u_X3_readFormula_h1_2 G N v1 v2 v3 v4 v5 σ) ∧ (p_X3_readSign 321 N (u_X3_readFormula_h1_19 G N v1 v2 v3 v4 v5 σ) ∧ ((((r_X3_readSign 321 N (u_X3_readFormula_h1_19 G N v1 v2 v3 v4 v5 σ)).1) = 0 → q_X3_readFormula P G N n 2 v1 v2 8 ((r_X2_emit ((u_X3_readFormula_h1_2 G N v1 v2 v3 v4 v5 σ).2 2 1 - 1) 8 0 (u_X3_readFormula_h1_2 G N v1 v2 v3 v4 v5 σ)).1) 0 (u_X3_readFormula_h1_20 G N v1 v2 v3 v4 v5 σ)) ∧ (¬ ((r_X3_readSign 321 N (u_X3_readFormula_h1_19 G N v1 v2 v3 v4 v5 σ)).1) = 0 → (P 0 (v1 + 1) 0 (u_X3_readFormula_h1_20 G N v1 v2 v3 v4 v5 σ) ∧ ((¬ ((G 0 (v1 + 1) 0 (u_X3_readFormula_h1_20 G N v1 v2 v3 v4 v5 σ)).1) = 0 → (((u_X3_readFormula_h1_21 G N v1 v2 v3 v4 v5 σ).2 2 1 ≠ 0 ∧ zlay ((u_X3_readFormula_h1_21 G N v1 v2 v3 v4 v5 σ).2 2 1 - 1) = (2, 16)) ∧ (p_X2_emit ((u_X3_readFormula_h1_21 G N v1 v2 v3 v4 v5 σ).2 2 1 - 1) 11 0 (u_X3_readFormula_h1_21 G N v1 v2 v3 v4 v5 σ) ∧ (((u_X3_readFormula_h1_22 G N v1 v2 v3 v4 v5 σ).2 2 1 ≠ 0 ∧ zlay ((u_X3_readFormula_h1_22 G N v1 v2 v3 v4 v5 σ).2 2 1 - 1) = (2, 16)) ∧ (p_X8_put 400 (((u_X3_readFormula_h1_22 G N v1 v2 v3 v4 v5 σ).2 2 1 - 1) + 6) ((r_X2_emit ((u_X3_readFormula_h1_2 G N v1 v2 v3 v4 v5 σ).2 2 1 - 1) 8 0 (u_X3_readFormula_h1_2 G N v1 v2 v3 v4 v5 σ)).1) ((u_X3_readFormula_h1_22 G N v1 v2 v3 v4 v5 σ).1 ((u_X3_readFormula_h1_22 G N v1 v2 v3 v4 v5 σ).2 2 1 - 1) 9) (u_X3_readFormula_h1_22 G N v1 v2 v3 v4 v5 σ) ∧ (p_X3_readSign 322 N (u_X3_readFormula_h1_23 G N v1 v2 v3 v4 v5 σ) ∧ ((((r_X3_readSign 322 N (u_X3_readFormula_h1_23 G N v1 v2 v3 v4 v5 σ)).1) = 0 → q_X3_readFormula P G N n 3 v1 v2 8 ((r_X2_emit ((u_X3_readFormula_h1_2 G N v1 v2 v3 v4 v5 σ).2 2 1 - 1) 8 0 (u_X3_readFormula_h1_2 G N v1 v2 v3 v4 v5 σ)).1) ((r_X2_emit ((u_X3_readFormula_h1_21 G N v1 v2 v3 v4 v5 σ).2 2 1 - 1) 11 0 (u_X3_readFormula_h1_21 G N v1 v2 v3 v4 v5 σ)).1) (u_X3_readFormula_h1_24 G N v1 v2 v3 v4 v5 σ)) ∧ (¬ ((r_X3_readSign 322 N (u_X3_readFormula_h1_23 G N v1 v2 v3 v4 v5 σ)).1) = 0 → (P 0 (v1 + 1) 0 (u_X3_readFormula_h1_24 G N v1 v2 v3 v4 v5 σ) ∧ ((¬ ((G 0 (v1 + 1) 0 (u_X3_readFormula_h1_24 G N v1 v2 v3 v4 v5 σ)).1) = 0 → (((u_X3_readFormula_h1_25 G N v1 v2 v3 v4 v5 σ).2 2 1 ≠ 0 ∧ zlay ((u_X3_readFormula_h1_25 G N v1 v2 v3 v4 v5 σ).2 2 1 - 1) = (2, 16)) ∧ p_X8_put 400 (((u_X3_readFormula_h1_25 G N v1 v2 v3 v4 v5 σ).2 2 1 - 1) + 6) ((r_X2_emit ((u_X3_readFormula_h1_21 G N v1 v2 v3 v4 v5 σ).2 2 1 - 1) 11 0 (u_X3_readFormula_h1_21 G N v1 v2 v3 v4 v5 σ)).1) ((u_X3_readFormula_h1_25 G N v1 v2 v3 v4 v5 σ).1 ((u_X3_readFormula_h1_25 G N v1 v2 v3 v4 v5 σ).2 2 1 - 1) 9) (u_X3_readFormula_h1_25 G N v1 v2 v3 v4 v5 σ))) ∧ (((G 0 (v1 + 1) 0 (u_X3_readFormula_h1_24 G N v1 v2 v3 v4 v5 σ)).1) = 0 → q_X3_readFormula P G N n 3 v1 v2 8 ((r_X2_emit ((u_X3_readFormula_h1_2 G N v1 v2 v3 v4 v5 σ).2 2 1 - 1) 8 0 (u_X3_readFormula_h1_2 G N v1 v2 v3 v4 v5 σ)).1) ((r_X2_emit ((u_X3_readFormula_h1_21 G N v1 v2 v3 v4 v5 σ).2 2 1 - 1) 11 0 (u_X3_readFormula_h1_21 G N v1 v2 v3 v4 v5 σ)).1) (u_X3_readFormula_h1_25 G N v1 v2 v3 v4 v5 σ)))))))))))) ∧ (((G 0 (v1 + 1) 0 (u_X3_readFormula_h1_20 G N v1 v2 v3 v4 v5 σ)).1) = 0 → q_X3_readFormula P G N n 2 v1 v2 8 ((r_X2_emit ((u_X3_readFormula_h1_2 G N v1 v2 v3 v4 v5 σ).2 2 1 - 1) 8 0 (u_X3_readFormula_h1_2 G N v1 v2 v3 v4 v5 σ)).1) 0 (u_X3_readFormula_h1_21 G N v1 v2 v3 v4 v5 σ)))))))))))))
  | n + 1, 2, v1, v2, v3, v4, v5, σ => True
  | n + 1, 3, v1, v2, v3, v4, v5, σ => True
  | _ + 1, _, _, _, _, _, _, _ => False
set_option maxRecDepth 100000 in
set_option maxHeartbeats 1000000 in
theorem w_X3_readFormula {nx : Nat} (P : Nat → Int32 → Int32 → zS → Prop) (G : Nat → Int32 → Int32 → zS → Int32 × zS) (N : Nat) (d : Nat) (hd : 40 ≤ d) (hG : zGp d nx G P) : ∀ n : Nat, (∀ (v1 : Int32) (v2 : Int32) (v3 : Int32) (v4 : Int32) (v5 : Int32) (σ : zS), q_X3_readFormula P G N n 0 v1 v2 v3 v4 v5 σ → zWp (d + 1) zall nx 44 (fun v σ1 => v = some (.inl ((l_X3_readFormula G N n 0 v1 v2 v3 v4 v5 σ).1)) ∧ σ1 = (l_X3_readFormula G N n 0 v1 v2 v3 v4 v5 σ).2) zall nx 38 [some (.inr (3, 12, 2)), some (.inl v1), none, none, none, none] [] σ) ∧ (∀ (v1 : Int32) (v2 : Int32) (v3 : Int32) (v4 : Int32) (v5 : Int32) (σ : zS), q_X3_readFormula P G N n 1 v1 v2 v3 v4 v5 σ → zWp (d + 1) zall nx 44 (fun v σ1 => v = some (.inl ((l_X3_readFormula G N n 1 v1 v2 v3 v4 v5 σ).1)) ∧ σ1 = (l_X3_readFormula G N n 1 v1 v2 v3 v4 v5 σ).2) zall nx 101 [some (.inr (3, 12, 2)), some (.inl v1), some (.inl v2), none, none, none] [] σ) ∧ (∀ (v1 : Int32) (v2 : Int32) (v3 : Int32) (v4 : Int32) (v5 : Int32) (σ : zS), q_X3_readFormula P G N n 2 v1 v2 v3 v4 v5 σ → zWp (d + 1) zall nx 44 (fun v σ1 => v = some (.inl ((l_X3_readFormula G N n 2 v1 v2 v3 v4 v5 σ).1)) ∧ σ1 = (l_X3_readFormula G N n 2 v1 v2 v3 v4 v5 σ).2) zall nx 176 [some (.inr (3, 12, 2)), some (.inl v1), some (.inl v2), some (.inl v3), some (.inl v4), none] [] σ) ∧ (∀ (v1 : Int32) (v2 : Int32) (v3 : Int32) (v4 : Int32) (v5 : Int32) (σ : zS), q_X3_readFormula P G N n 3 v1 v2 v3 v4 v5 σ → zWp (d + 1) zall nx 44 (fun v σ1 => v = some (.inl ((l_X3_readFormula G N n 3 v1 v2 v3 v4 v5 σ).1)) ∧ σ1 = (l_X3_readFormula G N n 3 v1 v2 v3 v4 v5 σ).2) zall nx 229 [some (.inr (3, 12, 2)), some (.inl v1), some (.inl v2), some (.inl v3), some (.inl v4), some (.inl v5)] [] σ) := by
  intro n
  induction n with
  | zero => exact ⟨fun _ _ _ _ _ _ h => h.elim, fun _ _ _ _ _ _ h => h.elim, fun _ _ _ _ _ _ h => h.elim, fun _ _ _ _ _ _ h => h.elim⟩
  | succ n ih =>
    refine ⟨?_, ?_, ?_, ?_⟩
    · intro v1 v2 v3 v4 v5 σ _
      refine zvc_sound (cd := kX3_readFormula) (cs := [38, 101, 176, 229]) rfl okX3_readFormula 1000 _ _ 38 (zseek kX3_readFormula 38) _ _ _ zseek_sub ?_
      refine zCl.use (c_X3_refuse 5 (σ.1 3 3) σ) (Nat.le_trans (Nat.le_of_ble_eq_true rfl) hd) ?_
      rintro _ σz ⟨rfl, hz⟩
      subst σz
      exact And.intro rfl (And.intro rfl (And.intro b_X3_refuse ⟨by rw [l_X3_readFormula] <;> rfl, by rw [l_X3_readFormula] <;> rfl⟩))
    · intro v1 v2 v3 v4 v5 σ hp
      rw [q_X3_readFormula] at hp
      refine zvc_sound (cd := kX3_readFormula) (cs := [38, 101, 176, 229]) rfl okX3_readFormula 1000 _ _ 101 (zseek kX3_readFormula 101) _ _ _ zseek_sub ?_
      refine zCl.use (c_X6_next N σ hp.1) (Nat.le_trans (Nat.le_of_ble_eq_true rfl) hd) ?_
      rintro _ σz ⟨rfl, hz⟩
      subst σz
      refine zCl.use (hG 1 (v1 + 1) 0 (u_X3_readFormula_h1_1 G N v1 v2 v3 v4 v5 σ) hp.2.1) (Nat.le_refl d) ?_
      rintro _ σz ⟨rfl, hz⟩
      subst σz
      refine And.intro (fun (h1 : ¬ ((G 1 (v1 + 1) 0 (u_X3_readFormula_h1_1 G N v1 v2 v3 v4 v5 σ)).1) = 0) => ?_) (fun (h1 : ((G 1 (v1 + 1) 0 (u_X3_readFormula_h1_1 G N v1 v2 v3 v4 v5 σ)).1) = 0) => ?_)
      · refine And.intro (fun (h2 : ¬ v2 = 60) => ?_) (fun (h2 : v2 = 60) => ?_)
        · refine And.intro (fun (h3 : ¬ v2 = 62) => ?_) (fun (h3 : v2 = 62) => ?_)
          · refine And.intro (((hp.2.2 h1).1 h2).1 h3).1.1 (fun q904 (e4 : (u_X3_readFormula_h1_2 G N v1 v2 v3 v4 v5 σ).2 2 1 = q904 + 1) => ?_)
            have g4 : q904 = ((u_X3_readFormula_h1_2 G N v1 v2 v3 v4 v5 σ).2 2 1 - 1) := by omega
            subst g4
            rw [(((hp.2.2 h1).1 h2).1 h3).1.2]
            refine zCl.use (c_X2_emit ((u_X3_readFormula_h1_2 G N v1 v2 v3 v4 v5 σ).2 2 1 - 1) 10 0 (u_X3_readFormula_h1_2 G N v1 v2 v3 v4 v5 σ) (((hp.2.2 h1).1 h2).1 h3).2.1) (Nat.le_trans (Nat.le_of_ble_eq_true rfl) hd) ?_
            rintro _ σz ⟨rfl, hz⟩
            subst σz
            refine zCl.use (c_X3_readSign 321 N (u_X3_readFormula_h1_3 G N v1 v2 v3 v4 v5 σ) (((hp.2.2 h1).1 h2).1 h3).2.2.1) (Nat.le_trans (Nat.le_of_ble_eq_true rfl) hd) ?_
            rintro _ σz ⟨rfl, hz⟩
            subst σz
            refine And.intro (fun (h5 : ((r_X3_readSign 321 N (u_X3_readFormula_h1_3 G N v1 v2 v3 v4 v5 σ)).1) = 0) => ?_) (fun (h5 : ¬ ((r_X3_readSign 321 N (u_X3_readFormula_h1_3 G N v1 v2 v3 v4 v5 σ)).1) = 0) => ?_)
            · refine zWp.use (ih.2.2.1 v1 v2 10 ((r_X2_emit ((u_X3_readFormula_h1_2 G N v1 v2 v3 v4 v5 σ).2 2 1 - 1) 10 0 (u_X3_readFormula_h1_2 G N v1 v2 v3 v4 v5 σ)).1) 0 (u_X3_readFormula_h1_4 G N v1 v2 v3 v4 v5 σ) ((((hp.2.2 h1).1 h2).1 h3).2.2.2.1 h5)) (And.intro rfl (And.intro rfl (And.intro rfl (And.intro rfl (And.intro rfl trivial))))) (fun vy σy hy => ?_)
              rw [l_X3_readFormula, if_neg h1, if_neg h2, if_neg h3, if_pos h5]; exact hy
            · refine zCl.use (hG 0 (v1 + 1) 0 (u_X3_readFormula_h1_4 G N v1 v2 v3 v4 v5 σ) ((((hp.2.2 h1).1 h2).1 h3).2.2.2.2 h5).1) (Nat.le_refl d) ?_
              rintro _ σz ⟨rfl, hz⟩
              subst σz
              refine And.intro (fun (h6 : ¬ ((G 0 (v1 + 1) 0 (u_X3_readFormula_h1_4 G N v1 v2 v3 v4 v5 σ)).1) = 0) => ?_) (fun (h6 : ((G 0 (v1 + 1) 0 (u_X3_readFormula_h1_4 G N v1 v2 v3 v4 v5 σ)).1) = 0) => ?_)
              · refine And.intro (((((hp.2.2 h1).1 h2).1 h3).2.2.2.2 h5).2.1 h6).1.1 (fun q907 (e7 : (u_X3_readFormula_h1_5 G N v1 v2 v3 v4 v5 σ).2 2 1 = q907 + 1) => ?_)
                have g7 : q907 = ((u_X3_readFormula_h1_5 G N v1 v2 v3 v4 v5 σ).2 2 1 - 1) := by omega
                subst g7
                rw [(((((hp.2.2 h1).1 h2).1 h3).2.2.2.2 h5).2.1 h6).1.2]
                refine zCl.use (c_X2_emit ((u_X3_readFormula_h1_5 G N v1 v2 v3 v4 v5 σ).2 2 1 - 1) 11 0 (u_X3_readFormula_h1_5 G N v1 v2 v3 v4 v5 σ) (((((hp.2.2 h1).1 h2).1 h3).2.2.2.2 h5).2.1 h6).2.1) (Nat.le_trans (Nat.le_of_ble_eq_true rfl) hd) ?_
                rintro _ σz ⟨rfl, hz⟩
                subst σz
                refine And.intro (((((hp.2.2 h1).1 h2).1 h3).2.2.2.2 h5).2.1 h6).2.2.1.1 (fun q908 (e8 : (u_X3_readFormula_h1_6 G N v1 v2 v3 v4 v5 σ).2 2 1 = q908 + 1) => ?_)
                have g8 : q908 = ((u_X3_readFormula_h1_6 G N v1 v2 v3 v4 v5 σ).2 2 1 - 1) := by omega
                subst g8
                rw [(((((hp.2.2 h1).1 h2).1 h3).2.2.2.2 h5).2.1 h6).2.2.1.2]
                refine And.intro (((((hp.2.2 h1).1 h2).1 h3).2.2.2.2 h5).2.1 h6).2.2.1.1 (fun q909 (e9 : (u_X3_readFormula_h1_6 G N v1 v2 v3 v4 v5 σ).2 2 1 = q909 + 1) => ?_)
                have g9 : q909 = ((u_X3_readFormula_h1_6 G N v1 v2 v3 v4 v5 σ).2 2 1 - 1) := by omega
                subst g9
                rw [(((((hp.2.2 h1).1 h2).1 h3).2.2.2.2 h5).2.1 h6).2.2.1.2]
                refine zCl.use (c_X8_put 400 (((u_X3_readFormula_h1_6 G N v1 v2 v3 v4 v5 σ).2 2 1 - 1) + 6) ((r_X2_emit ((u_X3_readFormula_h1_2 G N v1 v2 v3 v4 v5 σ).2 2 1 - 1) 10 0 (u_X3_readFormula_h1_2 G N v1 v2 v3 v4 v5 σ)).1) ((u_X3_readFormula_h1_6 G N v1 v2 v3 v4 v5 σ).1 ((u_X3_readFormula_h1_6 G N v1 v2 v3 v4 v5 σ).2 2 1 - 1) 9) (u_X3_readFormula_h1_6 G N v1 v2 v3 v4 v5 σ) (((((hp.2.2 h1).1 h2).1 h3).2.2.2.2 h5).2.1 h6).2.2.2.1) (Nat.le_trans (Nat.le_of_ble_eq_true rfl) hd) ?_
                rintro _ σz ⟨rfl, hz⟩
                subst σz
                refine zCl.use (c_X3_readSign 322 N (u_X3_readFormula_h1_7 G N v1 v2 v3 v4 v5 σ) (((((hp.2.2 h1).1 h2).1 h3).2.2.2.2 h5).2.1 h6).2.2.2.2.1) (Nat.le_trans (Nat.le_of_ble_eq_true rfl) hd) ?_
                rintro _ σz ⟨rfl, hz⟩
                subst σz
                refine And.intro (fun (h10 : ((r_X3_readSign 322 N (u_X3_readFormula_h1_7 G N v1 v2 v3 v4 v5 σ)).1) = 0) => ?_) (fun (h10 : ¬ ((r_X3_readSign 322 N (u_X3_readFormula_h1_7 G N v1 v2 v3 v4 v5 σ)).1) = 0) => ?_)
                · refine zWp.use (ih.2.2.2 v1 v2 10 ((r_X2_emit ((u_X3_readFormula_h1_2 G N v1 v2 v3 v4 v5 σ).2 2 1 - 1) 10 0 (u_X3_readFormula_h1_2 G N v1 v2 v3 v4 v5 σ)).1) ((r_X2_emit ((u_X3_readFormula_h1_5 G N v1 v2 v3 v4 v5 σ).2 2 1 - 1) 11 0 (u_X3_readFormula_h1_5 G N v1 v2 v3 v4 v5 σ)).1) (u_X3_readFormula_h1_8 G N v1 v2 v3 v4 v5 σ) ((((((hp.2.2 h1).1 h2).1 h3).2.2.2.2 h5).2.1 h6).2.2.2.2.2.1 h10)) (And.intro rfl (And.intro rfl (And.intro rfl (And.intro rfl (And.intro rfl (And.intro rfl trivial)))))) (fun vy σy hy => ?_)
                  rw [l_X3_readFormula, if_neg h1, if_neg h2, if_neg h3, if_neg h5, if_neg h6, if_pos h10]; exact hy
                · refine zCl.use (hG 0 (v1 + 1) 0 (u_X3_readFormula_h1_8 G N v1 v2 v3 v4 v5 σ) ((((((hp.2.2 h1).1 h2).1 h3).2.2.2.2 h5).2.1 h6).2.2.2.2.2.2 h10).1) (Nat.le_refl d) ?_
                  rintro _ σz ⟨rfl, hz⟩
                  subst σz
                  refine And.intro (fun (h11 : ¬ ((G 0 (v1 + 1) 0 (u_X3_readFormula_h1_8 G N v1 v2 v3 v4 v5 σ)).1) = 0) => ?_) (fun (h11 : ((G 0 (v1 + 1) 0 (u_X3_readFormula_h1_8 G N v1 v2 v3 v4 v5 σ)).1) = 0) => ?_)
                  · refine And.intro (((((((hp.2.2 h1).1 h2).1 h3).2.2.2.2 h5).2.1 h6).2.2.2.2.2.2 h10).2.1 h11).1.1 (fun q912 (e12 : (u_X3_readFormula_h1_9 G N v1 v2 v3 v4 v5 σ).2 2 1 = q912 + 1) => ?_)
                    have g12 : q912 = ((u_X3_readFormula_h1_9 G N v1 v2 v3 v4 v5 σ).2 2 1 - 1) := by omega
                    subst g12
                    rw [(((((((hp.2.2 h1).1 h2).1 h3).2.2.2.2 h5).2.1 h6).2.2.2.2.2.2 h10).2.1 h11).1.2]
                    refine And.intro (((((((hp.2.2 h1).1 h2).1 h3).2.2.2.2 h5).2.1 h6).2.2.2.2.2.2 h10).2.1 h11).1.1 (fun q913 (e13 : (u_X3_readFormula_h1_9 G N v1 v2 v3 v4 v5 σ).2 2 1 = q913 + 1) => ?_)
                    have g13 : q913 = ((u_X3_readFormula_h1_9 G N v1 v2 v3 v4 v5 σ).2 2 1 - 1) := by omega
                    subst g13
                    rw [(((((((hp.2.2 h1).1 h2).1 h3).2.2.2.2 h5).2.1 h6).2.2.2.2.2.2 h10).2.1 h11).1.2]
                    refine zCl.use (c_X8_put 400 (((u_X3_readFormula_h1_9 G N v1 v2 v3 v4 v5 σ).2 2 1 - 1) + 6) ((r_X2_emit ((u_X3_readFormula_h1_5 G N v1 v2 v3 v4 v5 σ).2 2 1 - 1) 11 0 (u_X3_readFormula_h1_5 G N v1 v2 v3 v4 v5 σ)).1) ((u_X3_readFormula_h1_9 G N v1 v2 v3 v4 v5 σ).1 ((u_X3_readFormula_h1_9 G N v1 v2 v3 v4 v5 σ).2 2 1 - 1) 9) (u_X3_readFormula_h1_9 G N v1 v2 v3 v4 v5 σ) (((((((hp.2.2 h1).1 h2).1 h3).2.2.2.2 h5).2.1 h6).2.2.2.2.2.2 h10).2.1 h11).2) (Nat.le_trans (Nat.le_of_ble_eq_true rfl) hd) ?_
                    rintro _ σz ⟨rfl, hz⟩
                    subst σz
                    exact And.intro rfl (And.intro rfl (And.intro (Or.inr rfl) ⟨by rw [l_X3_readFormula, if_neg h1, if_neg h2, if_neg h3, if_neg h5, if_neg h6, if_neg h10, if_neg h11] <;> rfl, by rw [l_X3_readFormula, if_neg h1, if_neg h2, if_neg h3, if_neg h5, if_neg h6, if_neg h10, if_neg h11] <;> rfl⟩))
                  · refine zWp.use (ih.2.2.2 v1 v2 10 ((r_X2_emit ((u_X3_readFormula_h1_2 G N v1 v2 v3 v4 v5 σ).2 2 1 - 1) 10 0 (u_X3_readFormula_h1_2 G N v1 v2 v3 v4 v5 σ)).1) ((r_X2_emit ((u_X3_readFormula_h1_5 G N v1 v2 v3 v4 v5 σ).2 2 1 - 1) 11 0 (u_X3_readFormula_h1_5 G N v1 v2 v3 v4 v5 σ)).1) (u_X3_readFormula_h1_9 G N v1 v2 v3 v4 v5 σ) (((((((hp.2.2 h1).1 h2).1 h3).2.2.2.2 h5).2.1 h6).2.2.2.2.2.2 h10).2.2 h11)) (And.intro rfl (And.intro rfl (And.intro rfl (And.intro rfl (And.intro rfl (And.intro rfl trivial)))))) (fun vy σy hy => ?_)
                    rw [l_X3_readFormula, if_neg h1, if_neg h2, if_neg h3, if_neg h5, if_neg h6, if_neg h10, if_pos h11]; exact hy
              · refine zWp.use (ih.2.2.1 v1 v2 10 ((r_X2_emit ((u_X3_readFormula_h1_2 G N v1 v2 v3 v4 v5 σ).2 2 1 - 1) 10 0 (u_X3_readFormula_h1_2 G N v1 v2 v3 v4 v5 σ)).1) 0 (u_X3_readFormula_h1_5 G N v1 v2 v3 v4 v5 σ) (((((hp.2.2 h1).1 h2).1 h3).2.2.2.2 h5).2.2 h6)) (And.intro rfl (And.intro rfl (And.intro rfl (And.intro rfl (And.intro rfl trivial))))) (fun vy σy hy => ?_)
                rw [l_X3_readFormula, if_neg h1, if_neg h2, if_neg h3, if_neg h5, if_pos h6]; exact hy
          · refine And.intro (((hp.2.2 h1).1 h2).2 h3).1.1 (fun q914 (e14 : (u_X3_readFormula_h1_2 G N v1 v2 v3 v4 v5 σ).2 2 1 = q914 + 1) => ?_)
            have g14 : q914 = ((u_X3_readFormula_h1_2 G N v1 v2 v3 v4 v5 σ).2 2 1 - 1) := by omega
            subst g14
            rw [(((hp.2.2 h1).1 h2).2 h3).1.2]
            refine zCl.use (c_X2_emit ((u_X3_readFormula_h1_2 G N v1 v2 v3 v4 v5 σ).2 2 1 - 1) 9 0 (u_X3_readFormula_h1_2 G N v1 v2 v3 v4 v5 σ) (((hp.2.2 h1).1 h2).2 h3).2.1) (Nat.le_trans (Nat.le_of_ble_eq_true rfl) hd) ?_
            rintro _ σz ⟨rfl, hz⟩
            subst σz
            refine zCl.use (c_X3_readSign 321 N (u_X3_readFormula_h1_11 G N v1 v2 v3 v4 v5 σ) (((hp.2.2 h1).1 h2).2 h3).2.2.1) (Nat.le_trans (Nat.le_of_ble_eq_true rfl) hd) ?_
            rintro _ σz ⟨rfl, hz⟩
            subst σz
            refine And.intro (fun (h15 : ((r_X3_readSign 321 N (u_X3_readFormula_h1_11 G N v1 v2 v3 v4 v5 σ)).1) = 0) => ?_) (fun (h15 : ¬ ((r_X3_readSign 321 N (u_X3_readFormula_h1_11 G N v1 v2 v3 v4 v5 σ)).1) = 0) => ?_)
            · refine zWp.use (ih.2.2.1 v1 v2 9 ((r_X2_emit ((u_X3_readFormula_h1_2 G N v1 v2 v3 v4 v5 σ).2 2 1 - 1) 9 0 (u_X3_readFormula_h1_2 G N v1 v2 v3 v4 v5 σ)).1) 0 (u_X3_readFormula_h1_12 G N v1 v2 v3 v4 v5 σ) ((((hp.2.2 h1).1 h2).2 h3).2.2.2.1 h15)) (And.intro rfl (And.intro rfl (And.intro rfl (And.intro rfl (And.intro rfl trivial))))) (fun vy σy hy => ?_)
              rw [l_X3_readFormula, if_neg h1, if_neg h2, if_pos h3, if_pos h15]; exact hy
            · refine zCl.use (hG 0 (v1 + 1) 0 (u_X3_readFormula_h1_12 G N v1 v2 v3 v4 v5 σ) ((((hp.2.2 h1).1 h2).2 h3).2.2.2.2 h15).1) (Nat.le_refl d) ?_
              rintro _ σz ⟨rfl, hz⟩
              subst σz
              refine And.intro (fun (h16 : ¬ ((G 0 (v1 + 1) 0 (u_X3_readFormula_h1_12 G N v1 v2 v3 v4 v5 σ)).1) = 0) => ?_) (fun (h16 : ((G 0 (v1 + 1) 0 (u_X3_readFormula_h1_12 G N v1 v2 v3 v4 v5 σ)).1) = 0) => ?_)
              · refine And.intro (((((hp.2.2 h1).1 h2).2 h3).2.2.2.2 h15).2.1 h16).1.1 (fun q917 (e17 : (u_X3_readFormula_h1_13 G N v1 v2 v3 v4 v5 σ).2 2 1 = q917 + 1) => ?_)
                have g17 : q917 = ((u_X3_readFormula_h1_13 G N v1 v2 v3 v4 v5 σ).2 2 1 - 1) := by omega
                subst g17
                rw [(((((hp.2.2 h1).1 h2).2 h3).2.2.2.2 h15).2.1 h16).1.2]
                refine zCl.use (c_X2_emit ((u_X3_readFormula_h1_13 G N v1 v2 v3 v4 v5 σ).2 2 1 - 1) 11 0 (u_X3_readFormula_h1_13 G N v1 v2 v3 v4 v5 σ) (((((hp.2.2 h1).1 h2).2 h3).2.2.2.2 h15).2.1 h16).2.1) (Nat.le_trans (Nat.le_of_ble_eq_true rfl) hd) ?_
                rintro _ σz ⟨rfl, hz⟩
                subst σz
                refine And.intro (((((hp.2.2 h1).1 h2).2 h3).2.2.2.2 h15).2.1 h16).2.2.1.1 (fun q918 (e18 : (u_X3_readFormula_h1_14 G N v1 v2 v3 v4 v5 σ).2 2 1 = q918 + 1) => ?_)
                have g18 : q918 = ((u_X3_readFormula_h1_14 G N v1 v2 v3 v4 v5 σ).2 2 1 - 1) := by omega
                subst g18
                rw [(((((hp.2.2 h1).1 h2).2 h3).2.2.2.2 h15).2.1 h16).2.2.1.2]
                refine And.intro (((((hp.2.2 h1).1 h2).2 h3).2.2.2.2 h15).2.1 h16).2.2.1.1 (fun q919 (e19 : (u_X3_readFormula_h1_14 G N v1 v2 v3 v4 v5 σ).2 2 1 = q919 + 1) => ?_)
                have g19 : q919 = ((u_X3_readFormula_h1_14 G N v1 v2 v3 v4 v5 σ).2 2 1 - 1) := by omega
                subst g19
                rw [(((((hp.2.2 h1).1 h2).2 h3).2.2.2.2 h15).2.1 h16).2.2.1.2]
                refine zCl.use (c_X8_put 400 (((u_X3_readFormula_h1_14 G N v1 v2 v3 v4 v5 σ).2 2 1 - 1) + 6) ((r_X2_emit ((u_X3_readFormula_h1_2 G N v1 v2 v3 v4 v5 σ).2 2 1 - 1) 9 0 (u_X3_readFormula_h1_2 G N v1 v2 v3 v4 v5 σ)).1) ((u_X3_readFormula_h1_14 G N v1 v2 v3 v4 v5 σ).1 ((u_X3_readFormula_h1_14 G N v1 v2 v3 v4 v5 σ).2 2 1 - 1) 9) (u_X3_readFormula_h1_14 G N v1 v2 v3 v4 v5 σ) (((((hp.2.2 h1).1 h2).2 h3).2.2.2.2 h15).2.1 h16).2.2.2.1) (Nat.le_trans (Nat.le_of_ble_eq_true rfl) hd) ?_
                rintro _ σz ⟨rfl, hz⟩
                subst σz
                refine zCl.use (c_X3_readSign 322 N (u_X3_readFormula_h1_15 G N v1 v2 v3 v4 v5 σ) (((((hp.2.2 h1).1 h2).2 h3).2.2.2.2 h15).2.1 h16).2.2.2.2.1) (Nat.le_trans (Nat.le_of_ble_eq_true rfl) hd) ?_
                rintro _ σz ⟨rfl, hz⟩
                subst σz
                refine And.intro (fun (h20 : ((r_X3_readSign 322 N (u_X3_readFormula_h1_15 G N v1 v2 v3 v4 v5 σ)).1) = 0) => ?_) (fun (h20 : ¬ ((r_X3_readSign 322 N (u_X3_readFormula_h1_15 G N v1 v2 v3 v4 v5 σ)).1) = 0) => ?_)
                · refine zWp.use (ih.2.2.2 v1 v2 9 ((r_X2_emit ((u_X3_readFormula_h1_2 G N v1 v2 v3 v4 v5 σ).2 2 1 - 1) 9 0 (u_X3_readFormula_h1_2 G N v1 v2 v3 v4 v5 σ)).1) ((r_X2_emit ((u_X3_readFormula_h1_13 G N v1 v2 v3 v4 v5 σ).2 2 1 - 1) 11 0 (u_X3_readFormula_h1_13 G N v1 v2 v3 v4 v5 σ)).1) (u_X3_readFormula_h1_16 G N v1 v2 v3 v4 v5 σ) ((((((hp.2.2 h1).1 h2).2 h3).2.2.2.2 h15).2.1 h16).2.2.2.2.2.1 h20)) (And.intro rfl (And.intro rfl (And.intro rfl (And.intro rfl (And.intro rfl (And.intro rfl trivial)))))) (fun vy σy hy => ?_)
                  rw [l_X3_readFormula, if_neg h1, if_neg h2, if_pos h3, if_neg h15, if_neg h16, if_pos h20]; exact hy
                · refine zCl.use (hG 0 (v1 + 1) 0 (u_X3_readFormula_h1_16 G N v1 v2 v3 v4 v5 σ) ((((((hp.2.2 h1).1 h2).2 h3).2.2.2.2 h15).2.1 h16).2.2.2.2.2.2 h20).1) (Nat.le_refl d) ?_
                  rintro _ σz ⟨rfl, hz⟩
                  subst σz
                  refine And.intro (fun (h21 : ¬ ((G 0 (v1 + 1) 0 (u_X3_readFormula_h1_16 G N v1 v2 v3 v4 v5 σ)).1) = 0) => ?_) (fun (h21 : ((G 0 (v1 + 1) 0 (u_X3_readFormula_h1_16 G N v1 v2 v3 v4 v5 σ)).1) = 0) => ?_)
                  · refine And.intro (((((((hp.2.2 h1).1 h2).2 h3).2.2.2.2 h15).2.1 h16).2.2.2.2.2.2 h20).2.1 h21).1.1 (fun q922 (e22 : (u_X3_readFormula_h1_17 G N v1 v2 v3 v4 v5 σ).2 2 1 = q922 + 1) => ?_)
                    have g22 : q922 = ((u_X3_readFormula_h1_17 G N v1 v2 v3 v4 v5 σ).2 2 1 - 1) := by omega
                    subst g22
                    rw [(((((((hp.2.2 h1).1 h2).2 h3).2.2.2.2 h15).2.1 h16).2.2.2.2.2.2 h20).2.1 h21).1.2]
                    refine And.intro (((((((hp.2.2 h1).1 h2).2 h3).2.2.2.2 h15).2.1 h16).2.2.2.2.2.2 h20).2.1 h21).1.1 (fun q923 (e23 : (u_X3_readFormula_h1_17 G N v1 v2 v3 v4 v5 σ).2 2 1 = q923 + 1) => ?_)
                    have g23 : q923 = ((u_X3_readFormula_h1_17 G N v1 v2 v3 v4 v5 σ).2 2 1 - 1) := by omega
                    subst g23
                    rw [(((((((hp.2.2 h1).1 h2).2 h3).2.2.2.2 h15).2.1 h16).2.2.2.2.2.2 h20).2.1 h21).1.2]
                    refine zCl.use (c_X8_put 400 (((u_X3_readFormula_h1_17 G N v1 v2 v3 v4 v5 σ).2 2 1 - 1) + 6) ((r_X2_emit ((u_X3_readFormula_h1_13 G N v1 v2 v3 v4 v5 σ).2 2 1 - 1) 11 0 (u_X3_readFormula_h1_13 G N v1 v2 v3 v4 v5 σ)).1) ((u_X3_readFormula_h1_17 G N v1 v2 v3 v4 v5 σ).1 ((u_X3_readFormula_h1_17 G N v1 v2 v3 v4 v5 σ).2 2 1 - 1) 9) (u_X3_readFormula_h1_17 G N v1 v2 v3 v4 v5 σ) (((((((hp.2.2 h1).1 h2).2 h3).2.2.2.2 h15).2.1 h16).2.2.2.2.2.2 h20).2.1 h21).2) (Nat.le_trans (Nat.le_of_ble_eq_true rfl) hd) ?_
                    rintro _ σz ⟨rfl, hz⟩
                    subst σz
                    exact And.intro rfl (And.intro rfl (And.intro (Or.inr rfl) ⟨by rw [l_X3_readFormula, if_neg h1, if_neg h2, if_pos h3, if_neg h15, if_neg h16, if_neg h20, if_neg h21] <;> rfl, by rw [l_X3_readFormula, if_neg h1, if_neg h2, if_pos h3, if_neg h15, if_neg h16, if_neg h20, if_neg h21] <;> rfl⟩))
                  · refine zWp.use (ih.2.2.2 v1 v2 9 ((r_X2_emit ((u_X3_readFormula_h1_2 G N v1 v2 v3 v4 v5 σ).2 2 1 - 1) 9 0 (u_X3_readFormula_h1_2 G N v1 v2 v3 v4 v5 σ)).1) ((r_X2_emit ((u_X3_readFormula_h1_13 G N v1 v2 v3 v4 v5 σ).2 2 1 - 1) 11 0 (u_X3_readFormula_h1_13 G N v1 v2 v3 v4 v5 σ)).1) (u_X3_readFormula_h1_17 G N v1 v2 v3 v4 v5 σ) (((((((hp.2.2 h1).1 h2).2 h3).2.2.2.2 h15).2.1 h16).2.2.2.2.2.2 h20).2.2 h21)) (And.intro rfl (And.intro rfl (And.intro rfl (And.intro rfl (And.intro rfl (And.intro rfl trivial)))))) (fun vy σy hy => ?_)
                    rw [l_X3_readFormula, if_neg h1, if_neg h2, if_pos h3, if_neg h15, if_neg h16, if_neg h20, if_pos h21]; exact hy
              · refine zWp.use (ih.2.2.1 v1 v2 9 ((r_X2_emit ((u_X3_readFormula_h1_2 G N v1 v2 v3 v4 v5 σ).2 2 1 - 1) 9 0 (u_X3_readFormula_h1_2 G N v1 v2 v3 v4 v5 σ)).1) 0 (u_X3_readFormula_h1_13 G N v1 v2 v3 v4 v5 σ) (((((hp.2.2 h1).1 h2).2 h3).2.2.2.2 h15).2.2 h16)) (And.intro rfl (And.intro rfl (And.intro rfl (And.intro rfl (And.intro rfl trivial))))) (fun vy σy hy => ?_)
                rw [l_X3_readFormula, if_neg h1, if_neg h2, if_pos h3, if_neg h15, if_pos h16]; exact hy
        · refine And.intro ((hp.2.2 h1).2 h2).1.1 (fun q924 (e24 : (u_X3_readFormula_h1_2 G N v1 v2 v3 v4 v5 σ).2 2 1 = q924 + 1) => ?_)
          have g24 : q924 = ((u_X3_readFormula_h1_2 G N v1 v2 v3 v4 v5 σ).2 2 1 - 1) := by omega
          subst g24
          rw [((hp.2.2 h1).2 h2).1.2]
          refine zCl.use (c_X2_emit ((u_X3_readFormula_h1_2 G N v1 v2 v3 v4 v5 σ).2 2 1 - 1) 8 0 (u_X3_readFormula_h1_2 G N v1 v2 v3 v4 v5 σ) ((hp.2.2 h1).2 h2).2.1) (Nat.le_trans (Nat.le_of_ble_eq_true rfl) hd) ?_
          rintro _ σz ⟨rfl, hz⟩
          subst σz
          refine zCl.use (c_X3_readSign 321 N (u_X3_readFormula_h1_19 G N v1 v2 v3 v4 v5 σ) ((hp.2.2 h1).2 h2).2.2.1) (Nat.le_trans (Nat.le_of_ble_eq_true rfl) hd) ?_
          rintro _ σz ⟨rfl, hz⟩
          subst σz
          refine And.intro (fun (h25 : ((r_X3_readSign 321 N (u_X3_readFormula_h1_19 G N v1 v2 v3 v4 v5 σ)).1) = 0) => ?_) (fun (h25 : ¬ ((r_X3_readSign 321 N (u_X3_readFormula_h1_19 G N v1 v2 v3 v4 v5 σ)).1) = 0) => ?_)
          · refine zWp.use (ih.2.2.1 v1 v2 8 ((r_X2_emit ((u_X3_readFormula_h1_2 G N v1 v2 v3 v4 v5 σ).2 2 1 - 1) 8 0 (u_X3_readFormula_h1_2 G N v1 v2 v3 v4 v5 σ)).1) 0 (u_X3_readFormula_h1_20 G N v1 v2 v3 v4 v5 σ) (((hp.2.2 h1).2 h2).2.2.2.1 h25)) (And.intro rfl (And.intro rfl (And.intro rfl (And.intro rfl (And.intro rfl trivial))))) (fun vy σy hy => ?_)
            rw [l_X3_readFormula, if_neg h1, if_pos h2, if_pos h25]; exact hy
          · refine zCl.use (hG 0 (v1 + 1) 0 (u_X3_readFormula_h1_20 G N v1 v2 v3 v4 v5 σ) (((hp.2.2 h1).2 h2).2.2.2.2 h25).1) (Nat.le_refl d) ?_
            rintro _ σz ⟨rfl, hz⟩
            subst σz
            refine And.intro (fun (h26 : ¬ ((G 0 (v1 + 1) 0 (u_X3_readFormula_h1_20 G N v1 v2 v3 v4 v5 σ)).1) = 0) => ?_) (fun (h26 : ((G 0 (v1 + 1) 0 (u_X3_readFormula_h1_20 G N v1 v2 v3 v4 v5 σ)).1) = 0) => ?_)
            · refine And.intro ((((hp.2.2 h1).2 h2).2.2.2.2 h25).2.1 h26).1.1 (fun q927 (e27 : (u_X3_readFormula_h1_21 G N v1 v2 v3 v4 v5 σ).2 2 1 = q927 + 1) => ?_)
              have g27 : q927 = ((u_X3_readFormula_h1_21 G N v1 v2 v3 v4 v5 σ).2 2 1 - 1) := by omega
              subst g27
              rw [((((hp.2.2 h1).2 h2).2.2.2.2 h25).2.1 h26).1.2]
              refine zCl.use (c_X2_emit ((u_X3_readFormula_h1_21 G N v1 v2 v3 v4 v5 σ).2 2 1 - 1) 11 0 (u_X3_readFormula_h1_21 G N v1 v2 v3 v4 v5 σ) ((((hp.2.2 h1).2 h2).2.2.2.2 h25).2.1 h26).2.1) (Nat.le_trans (Nat.le_of_ble_eq_true rfl) hd) ?_
              rintro _ σz ⟨rfl, hz⟩
              subst σz
              refine And.intro ((((hp.2.2 h1).2 h2).2.2.2.2 h25).2.1 h26).2.2.1.1 (fun q928 (e28 : (u_X3_readFormula_h1_22 G N v1 v2 v3 v4 v5 σ).2 2 1 = q928 + 1) => ?_)
              have g28 : q928 = ((u_X3_readFormula_h1_22 G N v1 v2 v3 v4 v5 σ).2 2 1 - 1) := by omega
              subst g28
              rw [((((hp.2.2 h1).2 h2).2.2.2.2 h25).2.1 h26).2.2.1.2]
              refine And.intro ((((hp.2.2 h1).2 h2).2.2.2.2 h25).2.1 h26).2.2.1.1 (fun q929 (e29 : (u_X3_readFormula_h1_22 G N v1 v2 v3 v4 v5 σ).2 2 1 = q929 + 1) => ?_)
              have g29 : q929 = ((u_X3_readFormula_h1_22 G N v1 v2 v3 v4 v5 σ).2 2 1 - 1) := by omega
              subst g29
              rw [((((hp.2.2 h1).2 h2).2.2.2.2 h25).2.1 h26).2.2.1.2]
              refine zCl.use (c_X8_put 400 (((u_X3_readFormula_h1_22 G N v1 v2 v3 v4 v5 σ).2 2 1 - 1) + 6) ((r_X2_emit ((u_X3_readFormula_h1_2 G N v1 v2 v3 v4 v5 σ).2 2 1 - 1) 8 0 (u_X3_readFormula_h1_2 G N v1 v2 v3 v4 v5 σ)).1) ((u_X3_readFormula_h1_22 G N v1 v2 v3 v4 v5 σ).1 ((u_X3_readFormula_h1_22 G N v1 v2 v3 v4 v5 σ).2 2 1 - 1) 9) (u_X3_readFormula_h1_22 G N v1 v2 v3 v4 v5 σ) ((((hp.2.2 h1).2 h2).2.2.2.2 h25).2.1 h26).2.2.2.1) (Nat.le_trans (Nat.le_of_ble_eq_true rfl) hd) ?_
              rintro _ σz ⟨rfl, hz⟩
              subst σz
              refine zCl.use (c_X3_readSign 322 N (u_X3_readFormula_h1_23 G N v1 v2 v3 v4 v5 σ) ((((hp.2.2 h1).2 h2).2.2.2.2 h25).2.1 h26).2.2.2.2.1) (Nat.le_trans (Nat.le_of_ble_eq_true rfl) hd) ?_
              rintro _ σz ⟨rfl, hz⟩
              subst σz
              refine And.intro (fun (h30 : ((r_X3_readSign 322 N (u_X3_readFormula_h1_23 G N v1 v2 v3 v4 v5 σ)).1) = 0) => ?_) (fun (h30 : ¬ ((r_X3_readSign 322 N (u_X3_readFormula_h1_23 G N v1 v2 v3 v4 v5 σ)).1) = 0) => ?_)
              · refine zWp.use (ih.2.2.2 v1 v2 8 ((r_X2_emit ((u_X3_readFormula_h1_2 G N v1 v2 v3 v4 v5 σ).2 2 1 - 1) 8 0 (u_X3_readFormula_h1_2 G N v1 v2 v3 v4 v5 σ)).1) ((r_X2_emit ((u_X3_readFormula_h1_21 G N v1 v2 v3 v4 v5 σ).2 2 1 - 1) 11 0 (u_X3_readFormula_h1_21 G N v1 v2 v3 v4 v5 σ)).1) (u_X3_readFormula_h1_24 G N v1 v2 v3 v4 v5 σ) (((((hp.2.2 h1).2 h2).2.2.2.2 h25).2.1 h26).2.2.2.2.2.1 h30)) (And.intro rfl (And.intro rfl (And.intro rfl (And.intro rfl (And.intro rfl (And.intro rfl trivial)))))) (fun vy σy hy => ?_)
                rw [l_X3_readFormula, if_neg h1, if_pos h2, if_neg h25, if_neg h26, if_pos h30]; exact hy
              · refine zCl.use (hG 0 (v1 + 1) 0 (u_X3_readFormula_h1_24 G N v1 v2 v3 v4 v5 σ) (((((hp.2.2 h1).2 h2).2.2.2.2 h25).2.1 h26).2.2.2.2.2.2 h30).1) (Nat.le_refl d) ?_
                rintro _ σz ⟨rfl, hz⟩
                subst σz
                refine And.intro (fun (h31 : ¬ ((G 0 (v1 + 1) 0 (u_X3_readFormula_h1_24 G N v1 v2 v3 v4 v5 σ)).1) = 0) => ?_) (fun (h31 : ((G 0 (v1 + 1) 0 (u_X3_readFormula_h1_24 G N v1 v2 v3 v4 v5 σ)).1) = 0) => ?_)
                · refine And.intro ((((((hp.2.2 h1).2 h2).2.2.2.2 h25).2.1 h26).2.2.2.2.2.2 h30).2.1 h31).1.1 (fun q932 (e32 : (u_X3_readFormula_h1_25 G N v1 v2 v3 v4 v5 σ).2 2 1 = q932 + 1) => ?_)
                  have g32 : q932 = ((u_X3_readFormula_h1_25 G N v1 v2 v3 v4 v5 σ).2 2 1 - 1) := by omega
                  subst g32
                  rw [((((((hp.2.2 h1).2 h2).2.2.2.2 h25).2.1 h26).2.2.2.2.2.2 h30).2.1 h31).1.2]
                  refine And.intro ((((((hp.2.2 h1).2 h2).2.2.2.2 h25).2.1 h26).2.2.2.2.2.2 h30).2.1 h31).1.1 (fun q933 (e33 : (u_X3_readFormula_h1_25 G N v1 v2 v3 v4 v5 σ).2 2 1 = q933 + 1) => ?_)
                  have g33 : q933 = ((u_X3_readFormula_h1_25 G N v1 v2 v3 v4 v5 σ).2 2 1 - 1) := by omega
                  subst g33
                  rw [((((((hp.2.2 h1).2 h2).2.2.2.2 h25).2.1 h26).2.2.2.2.2.2 h30).2.1 h31).1.2]
                  refine zCl.use (c_X8_put 400 (((u_X3_readFormula_h1_25 G N v1 v2 v3 v4 v5 σ).2 2 1 - 1) + 6) ((r_X2_emit ((u_X3_readFormula_h1_21 G N v1 v2 v3 v4 v5 σ).2 2 1 - 1) 11 0 (u_X3_readFormula_h1_21 G N v1 v2 v3 v4 v5 σ)).1) ((u_X3_readFormula_h1_25 G N v1 v2 v3 v4 v5 σ).1 ((u_X3_readFormula_h1_25 G N v1 v2 v3 v4 v5 σ).2 2 1 - 1) 9) (u_X3_readFormula_h1_25 G N v1 v2 v3 v4 v5 σ) ((((((hp.2.2 h1).2 h2).2.2.2.2 h25).2.1 h26).2.2.2.2.2.2 h30).2.1 h31).2) (Nat.le_trans (Nat.le_of_ble_eq_true rfl) hd) ?_
                  rintro _ σz ⟨rfl, hz⟩
                  subst σz
                  exact And.intro rfl (And.intro rfl (And.intro (Or.inr rfl) ⟨by rw [l_X3_readFormula, if_neg h1, if_pos h2, if_neg h25, if_neg h26, if_neg h30, if_neg h31] <;> rfl, by rw [l_X3_readFormula, if_neg h1, if_pos h2, if_neg h25, if_neg h26, if_neg h30, if_neg h31] <;> rfl⟩))
                · refine zWp.use (ih.2.2.2 v1 v2 8 ((r_X2_emit ((u_X3_readFormula_h1_2 G N v1 v2 v3 v4 v5 σ).2 2 1 - 1) 8 0 (u_X3_readFormula_h1_2 G N v1 v2 v3 v4 v5 σ)).1) ((r_X2_emit ((u_X3_readFormula_h1_21 G N v1 v2 v3 v4 v5 σ).2 2 1 - 1) 11 0 (u_X3_readFormula_h1_21 G N v1 v2 v3 v4 v5 σ)).1) (u_X3_readFormula_h1_25 G N v1 v2 v3 v4 v5 σ) ((((((hp.2.2 h1).2 h2).2.2.2.2 h25).2.1 h26).2.2.2.2.2.2 h30).2.2 h31)) (And.intro rfl (And.intro rfl (And.intro rfl (And.intro rfl (And.intro rfl (And.intro rfl trivial)))))) (fun vy σy hy => ?_)
                  rw [l_X3_readFormula, if_neg h1, if_pos h2, if_neg h25, if_neg h26, if_neg h30, if_pos h31]; exact hy
            · refine zWp.use (ih.2.2.1 v1 v2 8 ((r_X2_emit ((u_X3_readFormula_h1_2 G N v1 v2 v3 v4 v5 σ).2 2 1 - 1) 8 0 (u_X3_readFormula_h1_2 G N v1 v2 v3 v4 v5 σ)).1) 0 (u_X3_readFormula_h1_21 G N v1 v2 v3 v4 v5 σ) ((((hp.2.2 h1).2 h2).2.2.2.2 h25).2.2 h26)) (And.intro rfl (And.intro rfl (And.intro rfl (And.intro rfl (And.intro rfl trivial))))) (fun vy σy hy => ?_)
              rw [l_X3_readFormula, if_neg h1, if_pos h2, if_neg h25, if_pos h26]; exact hy
      · exact And.intro rfl (And.intro rfl (And.intro (Or.inl rfl) ⟨by rw [l_X3_readFormula, if_pos h1] <;> rfl, by rw [l_X3_readFormula, if_pos h1] <;> rfl⟩))
    · intro v1 v2 v3 v4 v5 σ _
      refine zvc_sound (cd := kX3_readFormula) (cs := [38, 101, 176, 229]) rfl okX3_readFormula 1000 _ _ 176 (zseek kX3_readFormula 176) _ _ _ zseek_sub ?_
      exact And.intro rfl (And.intro rfl (And.intro (Or.inl rfl) ⟨by rw [l_X3_readFormula] <;> rfl, by rw [l_X3_readFormula] <;> rfl⟩))
    · intro v1 v2 v3 v4 v5 σ _
      refine zvc_sound (cd := kX3_readFormula) (cs := [38, 101, 176, 229]) rfl okX3_readFormula 1000 _ _ 229 (zseek kX3_readFormula 229) _ _ _ zseek_sub ?_
      exact And.intro rfl (And.intro rfl (And.intro (Or.inl rfl) ⟨by rw [l_X3_readFormula] <;> rfl, by rw [l_X3_readFormula] <;> rfl⟩))
def u_X3_readFormula_1 (G : Nat → Int32 → Int32 → zS → Int32 × zS) (x1 : Int32) (N : Nat) (σ : zS) : zS := s_X6_next N σ
def u_X3_readFormula_2 (G : Nat → Int32 → Int32 → zS → Int32 × zS) (x1 : Int32) (N : Nat) (σ : zS) : zS := (G 1 (x1 + 1) 0 (u_X3_readFormula_1 G x1 N σ)).2
def u_X3_readFormula_3 (G : Nat → Int32 → Int32 → zS → Int32 × zS) (x1 : Int32) (N : Nat) (σ : zS) : zS := (r_X3_refuseToken (u_X3_readFormula_2 G x1 N σ)).2
def u_X3_readFormula_4 (G : Nat → Int32 → Int32 → zS → Int32 × zS) (x1 : Int32) (N : Nat) (σ : zS) : zS := (G 1 x1 0 σ).2
def r_X3_readFormula (G : Nat → Int32 → Int32 → zS → Int32 × zS) (x1 : Int32) (N : Nat) (σ : zS) : Int32 × zS := if (σ.1 3 2) = 320 then (if 5 < x1 then (l_X3_readFormula G N N 0 x1 0 0 0 0 σ) else (if (σ.1 3 3) = (σ.1 2 6) then (l_X3_readFormula G N N 0 x1 0 0 0 0 σ) else (if ((G 1 (x1 + 1) 0 (u_X3_readFormula_1 G x1 N σ)).1) = 0 then (0, (u_X3_readFormula_2 G x1 N σ)) else (if ((u_X3_readFormula_2 G x1 N σ).1 3 2) = 60 then (l_X3_readFormula G N N 1 x1 ((u_X3_readFormula_2 G x1 N σ).1 3 2) 0 0 0 (u_X3_readFormula_2 G x1 N σ)) else (if ((u_X3_readFormula_2 G x1 N σ).1 3 2) = 62 then (l_X3_readFormula G N N 1 x1 ((u_X3_readFormula_2 G x1 N σ).1 3 2) 0 0 0 (u_X3_readFormula_2 G x1 N σ)) else (if ((u_X3_readFormula_2 G x1 N σ).1 3 2) = 61 then (l_X3_readFormula G N N 1 x1 ((u_X3_readFormula_2 G x1 N σ).1 3 2) 0 0 0 (u_X3_readFormula_2 G x1 N σ)) else ((r_X3_refuseToken (u_X3_readFormula_2 G x1 N σ)).1, (u_X3_readFormula_3 G x1 N σ)))))))) else ((G 1 x1 0 σ).1, (u_X3_readFormula_4 G x1 N σ))
def p_X3_readFormula (P : Nat → Int32 → Int32 → zS → Prop) (G : Nat → Int32 → Int32 → zS → Int32 × zS) (x1 : Int32) (N : Nat) (σ : zS) : Prop := ((σ.1 3 2) = 320 → ((5 < x1 → q_X3_readFormula P G N N 0 x1 0 0 0 0 σ) ∧ (¬ 5 < x1 → ((¬ (σ.1 3 3) = (σ.1 2 6) → (p_X6_next N σ ∧ (P 1 (x1 + 1) 0 (u_X3_readFormula_1 G x1 N σ) ∧ (¬ ((G 1 (x1 + 1) 0 (u_X3_readFormula_1 G x1 N σ)).1) = 0 → ((((u_X3_readFormula_2 G x1 N σ).1 3 2) = 60 → q_X3_readFormula P G N N 1 x1 ((u_X3_readFormula_2 G x1 N σ).1 3 2) 0 0 0 (u_X3_readFormula_2 G x1 N σ)) ∧ (¬ ((u_X3_readFormula_2 G x1 N σ).1 3 2) = 60 → ((((u_X3_readFormula_2 G x1 N σ).1 3 2) = 62 → q_X3_readFormula P G N N 1 x1 ((u_X3_readFormula_2 G x1 N σ).1 3 2) 0 0 0 (u_X3_readFormula_2 G x1 N σ)) ∧ (¬ ((u_X3_readFormula_2 G x1 N σ).1 3 2) = 62 → (((u_X3_readFormula_2 G x1 N σ).1 3 2) = 61 → q_X3_readFormula P G N N 1 x1 ((u_X3_readFormula_2 G x1 N σ).1 3 2) 0 0 0 (u_X3_readFormula_2 G x1 N σ)))))))))) ∧ ((σ.1 3 3) = (σ.1 2 6) → q_X3_readFormula P G N N 0 x1 0 0 0 0 σ))))) ∧ (¬ (σ.1 3 2) = 320 → (P 1 x1 0 σ ∧ ((((G 1 x1 0 σ).1) = 0 ∨ ((G 1 x1 0 σ).1) = 1))))
set_option maxRecDepth 100000 in
set_option maxHeartbeats 1000000 in
theorem c_X3_readFormula {nx : Nat} (P : Nat → Int32 → Int32 → zS → Prop) (G : Nat → Int32 → Int32 → zS → Int32 × zS) (x1 : Int32) (N : Nat) (σ : zS) (d : Nat) (hd : 40 ≤ d) (hG : zGp d nx G P) (hp : p_X3_readFormula P G x1 N σ) : zCl (d + 1) zall nx zall nx 44 [.inr (3, 12, 2), .inl x1] σ (fun v σ1 => v = some (.inl ((r_X3_readFormula G x1 N σ).1)) ∧ σ1 = (r_X3_readFormula G x1 N σ).2) := by
  refine zmeth (cd := kX3_readFormula) [38, 101, 176, 229] 1000 (Nat.le_of_ble_eq_true rfl) rfl okX3_readFormula (Nat.le_refl _) (Nat.le_of_ble_eq_true rfl) ?_
  refine And.intro (fun (h1 : (σ.1 3 2) = 320) => ?_) (fun (h1 : ¬ (σ.1 3 2) = 320) => ?_)
  · refine And.intro (fun (h2 : 5 < x1) => ?_) (fun (h2 : ¬ 5 < x1) => ?_)
    · refine zWp.use ((w_X3_readFormula P G N d hd hG N).1 x1 0 0 0 0 σ ((hp.1 h1).1 h2)) (And.intro rfl (And.intro rfl trivial)) (fun vy σy hy => ?_)
      rw [r_X3_readFormula, if_pos h1, if_pos h2]; exact hy
    · refine And.intro (fun (h3 : ¬ (σ.1 3 3) = (σ.1 2 6)) => ?_) (fun (h3 : (σ.1 3 3) = (σ.1 2 6)) => ?_)
      · refine zCl.use (c_X6_next N σ (((hp.1 h1).2 h2).1 h3).1) (Nat.le_trans (Nat.le_of_ble_eq_true rfl) hd) ?_
        rintro _ σz ⟨rfl, hz⟩
        subst σz
        refine zCl.use (hG 1 (x1 + 1) 0 (u_X3_readFormula_1 G x1 N σ) (((hp.1 h1).2 h2).1 h3).2.1) (Nat.le_refl d) ?_
        rintro _ σz ⟨rfl, hz⟩
        subst σz
        refine And.intro (fun (h4 : ¬ ((G 1 (x1 + 1) 0 (u_X3_readFormula_1 G x1 N σ)).1) = 0) => ?_) (fun (h4 : ((G 1 (x1 + 1) 0 (u_X3_readFormula_1 G x1 N σ)).1) = 0) => ?_)
        · refine And.intro (fun (h5 : ((u_X3_readFormula_2 G x1 N σ).1 3 2) = 60) => ?_) (fun (h5 : ¬ ((u_X3_readFormula_2 G x1 N σ).1 3 2) = 60) => ?_)
          · refine zWp.use ((w_X3_readFormula P G N d hd hG N).2.1 x1 ((u_X3_readFormula_2 G x1 N σ).1 3 2) 0 0 0 (u_X3_readFormula_2 G x1 N σ) (((((hp.1 h1).2 h2).1 h3).2.2 h4).1 h5)) (And.intro rfl (And.intro rfl (And.intro rfl trivial))) (fun vy σy hy => ?_)
            rw [r_X3_readFormula, if_pos h1, if_neg h2, if_neg h3, if_neg h4, if_pos h5]; exact hy
          · refine And.intro (fun (h6 : ((u_X3_readFormula_2 G x1 N σ).1 3 2) = 62) => ?_) (fun (h6 : ¬ ((u_X3_readFormula_2 G x1 N σ).1 3 2) = 62) => ?_)
            · refine zWp.use ((w_X3_readFormula P G N d hd hG N).2.1 x1 ((u_X3_readFormula_2 G x1 N σ).1 3 2) 0 0 0 (u_X3_readFormula_2 G x1 N σ) ((((((hp.1 h1).2 h2).1 h3).2.2 h4).2 h5).1 h6)) (And.intro rfl (And.intro rfl (And.intro rfl trivial))) (fun vy σy hy => ?_)
              rw [r_X3_readFormula, if_pos h1, if_neg h2, if_neg h3, if_neg h4, if_neg h5, if_pos h6]; exact hy
            · refine And.intro (fun (h7 : ((u_X3_readFormula_2 G x1 N σ).1 3 2) = 61) => ?_) (fun (h7 : ¬ ((u_X3_readFormula_2 G x1 N σ).1 3 2) = 61) => ?_)
              · refine zWp.use ((w_X3_readFormula P G N d hd hG N).2.1 x1 ((u_X3_readFormula_2 G x1 N σ).1 3 2) 0 0 0 (u_X3_readFormula_2 G x1 N σ) (((((((hp.1 h1).2 h2).1 h3).2.2 h4).2 h5).2 h6) h7)) (And.intro rfl (And.intro rfl (And.intro rfl trivial))) (fun vy σy hy => ?_)
                rw [r_X3_readFormula, if_pos h1, if_neg h2, if_neg h3, if_neg h4, if_neg h5, if_neg h6, if_pos h7]; exact hy
              · refine zCl.use (c_X3_refuseToken (u_X3_readFormula_2 G x1 N σ)) (Nat.le_trans (Nat.le_of_ble_eq_true rfl) hd) ?_
                rintro _ σz ⟨rfl, hz⟩
                subst σz
                exact And.intro rfl (And.intro rfl (And.intro b_X3_refuseToken ⟨by rw [r_X3_readFormula, if_pos h1, if_neg h2, if_neg h3, if_neg h4, if_neg h5, if_neg h6, if_neg h7] <;> rfl, by rw [r_X3_readFormula, if_pos h1, if_neg h2, if_neg h3, if_neg h4, if_neg h5, if_neg h6, if_neg h7] <;> rfl⟩))
        · exact And.intro rfl (And.intro rfl (And.intro (Or.inl rfl) ⟨by rw [r_X3_readFormula, if_pos h1, if_neg h2, if_neg h3, if_pos h4] <;> rfl, by rw [r_X3_readFormula, if_pos h1, if_neg h2, if_neg h3, if_pos h4] <;> rfl⟩))
      · refine zWp.use ((w_X3_readFormula P G N d hd hG N).1 x1 0 0 0 0 σ (((hp.1 h1).2 h2).2 h3)) (And.intro rfl (And.intro rfl trivial)) (fun vy σy hy => ?_)
        rw [r_X3_readFormula, if_pos h1, if_neg h2, if_pos h3]; exact hy
  · refine zCl.use (hG 1 x1 0 σ (hp.2 h1).1) (Nat.le_refl d) ?_
    rintro _ σz ⟨rfl, hz⟩
    subst σz
    exact And.intro rfl (And.intro rfl (And.intro (hp.2 h1).2 ⟨by rw [r_X3_readFormula, if_neg h1] <;> rfl, by rw [r_X3_readFormula, if_neg h1] <;> rfl⟩))
def u_X3_readSum_h0_1 (G : Nat → Int32 → Int32 → zS → Int32 × zS) (N : Nat) (v1 : Int32) (v2 : Int32) (σ : zS) : zS := s_X6_next N σ
def u_X3_readSum_h0_2 (G : Nat → Int32 → Int32 → zS → Int32 × zS) (N : Nat) (v1 : Int32) (v2 : Int32) (σ : zS) : zS := (G 2 v1 0 (u_X3_readSum_h0_1 G N v1 v2 σ)).2
def u_X3_readSum_h0_3 (G : Nat → Int32 → Int32 → zS → Int32 × zS) (N : Nat) (v1 : Int32) (v2 : Int32) (σ : zS) : zS := (r_X2_emit ((u_X3_readSum_h0_2 G N v1 v2 σ).2 2 1 - 1) 4 0 (u_X3_readSum_h0_2 G N v1 v2 σ)).2
def u_X3_readSum_h0_4 (G : Nat → Int32 → Int32 → zS → Int32 × zS) (N : Nat) (v1 : Int32) (v2 : Int32) (σ : zS) : zS := s_X6_next N σ
def u_X3_readSum_h0_5 (G : Nat → Int32 → Int32 → zS → Int32 × zS) (N : Nat) (v1 : Int32) (v2 : Int32) (σ : zS) : zS := (G 2 v1 0 (u_X3_readSum_h0_4 G N v1 v2 σ)).2
def u_X3_readSum_h0_6 (G : Nat → Int32 → Int32 → zS → Int32 × zS) (N : Nat) (v1 : Int32) (v2 : Int32) (σ : zS) : zS := (r_X2_emit ((u_X3_readSum_h0_5 G N v1 v2 σ).2 2 1 - 1) 3 0 (u_X3_readSum_h0_5 G N v1 v2 σ)).2
def u_X3_readSum_h0_7 (G : Nat → Int32 → Int32 → zS → Int32 × zS) (N : Nat) (v1 : Int32) (v2 : Int32) (σ : zS) : zS := s_X6_next N σ
def u_X3_readSum_h0_8 (G : Nat → Int32 → Int32 → zS → Int32 × zS) (N : Nat) (v1 : Int32) (v2 : Int32) (σ : zS) : zS := (G 2 v1 0 (u_X3_readSum_h0_7 G N v1 v2 σ)).2
def u_X3_readSum_h0_9 (G : Nat → Int32 → Int32 → zS → Int32 × zS) (N : Nat) (v1 : Int32) (v2 : Int32) (σ : zS) : zS := (r_X2_emit ((u_X3_readSum_h0_8 G N v1 v2 σ).2 2 1 - 1) 4 0 (u_X3_readSum_h0_8 G N v1 v2 σ)).2
def u_X3_readSum_h0_10 (G : Nat → Int32 → Int32 → zS → Int32 × zS) (N : Nat) (v1 : Int32) (v2 : Int32) (σ : zS) : zS := s_X6_next N σ
def u_X3_readSum_h0_11 (G : Nat → Int32 → Int32 → zS → Int32 × zS) (N : Nat) (v1 : Int32) (v2 : Int32) (σ : zS) : zS := (G 2 v1 0 (u_X3_readSum_h0_10 G N v1 v2 σ)).2
def u_X3_readSum_h0_12 (G : Nat → Int32 → Int32 → zS → Int32 × zS) (N : Nat) (v1 : Int32) (v2 : Int32) (σ : zS) : zS := (r_X2_emit ((u_X3_readSum_h0_11 G N v1 v2 σ).2 2 1 - 1) 3 0 (u_X3_readSum_h0_11 G N v1 v2 σ)).2
def l_X3_readSum (G : Nat → Int32 → Int32 → zS → Int32 × zS) (N : Nat) : Nat → Int32 → Int32 → zS → Int32 × zS
  | 0, _, _, σ => (0, σ)
  | n + 1, v1, v2, σ => if 1000 ≤ v2 then (1, σ) else (if (σ.1 3 2) = 43 then (if (σ.1 3 2) = 43 then (if ((G 2 v1 0 (u_X3_readSum_h0_4 G N v1 v2 σ)).1) = 0 then (0, (u_X3_readSum_h0_5 G N v1 v2 σ)) else (l_X3_readSum G N n v1 (v2 + 1) (u_X3_readSum_h0_6 G N v1 v2 σ))) else (if ((G 2 v1 0 (u_X3_readSum_h0_1 G N v1 v2 σ)).1) = 0 then (0, (u_X3_readSum_h0_2 G N v1 v2 σ)) else (l_X3_readSum G N n v1 (v2 + 1) (u_X3_readSum_h0_3 G N v1 v2 σ)))) else (if (σ.1 3 2) = 45 then (if (σ.1 3 2) = 43 then (if ((G 2 v1 0 (u_X3_readSum_h0_10 G N v1 v2 σ)).1) = 0 then (0, (u_X3_readSum_h0_11 G N v1 v2 σ)) else (l_X3_readSum G N n v1 (v2 + 1) (u_X3_readSum_h0_12 G N v1 v2 σ))) else (if ((G 2 v1 0 (u_X3_readSum_h0_7 G N v1 v2 σ)).1) = 0 then (0, (u_X3_readSum_h0_8 G N v1 v2 σ)) else (l_X3_readSum G N n v1 (v2 + 1) (u_X3_readSum_h0_9 G N v1 v2 σ)))) else (1, σ)))
def q_X3_readSum (P : Nat → Int32 → Int32 → zS → Prop) (G : Nat → Int32 → Int32 → zS → Int32 × zS) (N : Nat) : Nat → Int32 → Int32 → zS → Prop
  | 0, _, _, _ => False
  | n + 1, v1, v2, σ => ¬ 1000 ≤ v2 → (((σ.1 3 2) = 43 → ((¬ (σ.1 3 2) = 43 → (p_X6_next N σ ∧ (P 2 v1 0 (u_X3_readSum_h0_1 G N v1 v2 σ) ∧ (¬ ((G 2 v1 0 (u_X3_readSum_h0_1 G N v1 v2 σ)).1) = 0 → (((u_X3_readSum_h0_2 G N v1 v2 σ).2 2 1 ≠ 0 ∧ zlay ((u_X3_readSum_h0_2 G N v1 v2 σ).2 2 1 - 1) = (2, 16)) ∧ (p_X2_emit ((u_X3_readSum_h0_2 G N v1 v2 σ).2 2 1 - 1) 4 0 (u_X3_readSum_h0_2 G N v1 v2 σ) ∧ q_X3_readSum P G N n v1 (v2 + 1) (u_X3_readSum_h0_3 G N v1 v2 σ))))))) ∧ ((σ.1 3 2) = 43 → (p_X6_next N σ ∧ (P 2 v1 0 (u_X3_readSum_h0_4 G N v1 v2 σ) ∧ (¬ ((G 2 v1 0 (u_X3_readSum_h0_4 G N v1 v2 σ)).1) = 0 → (((u_X3_readSum_h0_5 G N v1 v2 σ).2 2 1 ≠ 0 ∧ zlay ((u_X3_readSum_h0_5 G N v1 v2 σ).2 2 1 - 1) = (2, 16)) ∧ (p_X2_emit ((u_X3_readSum_h0_5 G N v1 v2 σ).2 2 1 - 1) 3 0 (u_X3_readSum_h0_5 G N v1 v2 σ) ∧ q_X3_readSum P G N n v1 (v2 + 1) (u_X3_readSum_h0_6 G N v1 v2 σ))))))))) ∧ (¬ (σ.1 3 2) = 43 → ((σ.1 3 2) = 45 → ((¬ (σ.1 3 2) = 43 → (p_X6_next N σ ∧ (P 2 v1 0 (u_X3_readSum_h0_7 G N v1 v2 σ) ∧ (¬ ((G 2 v1 0 (u_X3_readSum_h0_7 G N v1 v2 σ)).1) = 0 → (((u_X3_readSum_h0_8 G N v1 v2 σ).2 2 1 ≠ 0 ∧ zlay ((u_X3_readSum_h0_8 G N v1 v2 σ).2 2 1 - 1) = (2, 16)) ∧ (p_X2_emit ((u_X3_readSum_h0_8 G N v1 v2 σ).2 2 1 - 1) 4 0 (u_X3_readSum_h0_8 G N v1 v2 σ) ∧ q_X3_readSum P G N n v1 (v2 + 1) (u_X3_readSum_h0_9 G N v1 v2 σ))))))) ∧ ((σ.1 3 2) = 43 → (p_X6_next N σ ∧ (P 2 v1 0 (u_X3_readSum_h0_10 G N v1 v2 σ) ∧ (¬ ((G 2 v1 0 (u_X3_readSum_h0_10 G N v1 v2 σ)).1) = 0 → (((u_X3_readSum_h0_11 G N v1 v2 σ).2 2 1 ≠ 0 ∧ zlay ((u_X3_readSum_h0_11 G N v1 v2 σ).2 2 1 - 1) = (2, 16)) ∧ (p_X2_emit ((u_X3_readSum_h0_11 G N v1 v2 σ).2 2 1 - 1) 3 0 (u_X3_readSum_h0_11 G N v1 v2 σ) ∧ q_X3_readSum P G N n v1 (v2 + 1) (u_X3_readSum_h0_12 G N v1 v2 σ)))))))))))
set_option maxRecDepth 100000 in
set_option maxHeartbeats 1000000 in
theorem w_X3_readSum {nx : Nat} (P : Nat → Int32 → Int32 → zS → Prop) (G : Nat → Int32 → Int32 → zS → Int32 × zS) (N : Nat) (d : Nat) (hd : 40 ≤ d) (hG : zGp d nx G P) : ∀ n : Nat, (∀ (v1 : Int32) (v2 : Int32) (σ : zS), q_X3_readSum P G N n v1 v2 σ → zWp (d + 1) zall nx 45 (fun v σ1 => v = some (.inl ((l_X3_readSum G N n v1 v2 σ).1)) ∧ σ1 = (l_X3_readSum G N n v1 v2 σ).2) zall nx 12 [some (.inr (3, 12, 2)), some (.inl v1), some (.inl v2), none] [] σ) := by
  intro n
  induction n with
  | zero => exact fun _ _ _ h => h.elim
  | succ n ih =>
    intro v1 v2 σ hp
    rw [q_X3_readSum] at hp
    refine zvc_sound (cd := kX3_readSum) (cs := [12]) rfl okX3_readSum 1000 _ _ 12 (zseek kX3_readSum 12) _ _ _ zseek_sub ?_
    refine And.intro (fun (h1 : 1000 ≤ v2) => ?_) (fun (h1 : ¬ 1000 ≤ v2) => ?_)
    · exact And.intro rfl (And.intro rfl (And.intro (Or.inr rfl) ⟨by rw [l_X3_readSum, if_pos h1] <;> rfl, by rw [l_X3_readSum, if_pos h1] <;> rfl⟩))
    · refine And.intro (fun (h2 : (σ.1 3 2) = 43) => ?_) (fun (h2 : ¬ (σ.1 3 2) = 43) => ?_)
      · refine And.intro (fun (h3 : ¬ (σ.1 3 2) = 43) => ?_) (fun (h3 : (σ.1 3 2) = 43) => ?_)
        · refine zCl.use (c_X6_next N σ (((hp h1).1 h2).1 h3).1) (Nat.le_trans (Nat.le_of_ble_eq_true rfl) hd) ?_
          rintro _ σz ⟨rfl, hz⟩
          subst σz
          refine zCl.use (hG 2 v1 0 (u_X3_readSum_h0_1 G N v1 v2 σ) (((hp h1).1 h2).1 h3).2.1) (Nat.le_refl d) ?_
          rintro _ σz ⟨rfl, hz⟩
          subst σz
          refine And.intro (fun (h4 : ¬ ((G 2 v1 0 (u_X3_readSum_h0_1 G N v1 v2 σ)).1) = 0) => ?_) (fun (h4 : ((G 2 v1 0 (u_X3_readSum_h0_1 G N v1 v2 σ)).1) = 0) => ?_)
          · refine And.intro ((((hp h1).1 h2).1 h3).2.2 h4).1.1 (fun q905 (e5 : (u_X3_readSum_h0_2 G N v1 v2 σ).2 2 1 = q905 + 1) => ?_)
            have g5 : q905 = ((u_X3_readSum_h0_2 G N v1 v2 σ).2 2 1 - 1) := by omega
            subst g5
            rw [((((hp h1).1 h2).1 h3).2.2 h4).1.2]
            refine zCl.use (c_X2_emit ((u_X3_readSum_h0_2 G N v1 v2 σ).2 2 1 - 1) 4 0 (u_X3_readSum_h0_2 G N v1 v2 σ) ((((hp h1).1 h2).1 h3).2.2 h4).2.1) (Nat.le_trans (Nat.le_of_ble_eq_true rfl) hd) ?_
            rintro _ σz ⟨rfl, hz⟩
            subst σz
            refine zWp.use (ih v1 (v2 + 1) (u_X3_readSum_h0_3 G N v1 v2 σ) ((((hp h1).1 h2).1 h3).2.2 h4).2.2) (And.intro rfl (And.intro rfl (And.intro rfl trivial))) (fun vy σy hy => ?_)
            rw [l_X3_readSum, if_neg h1, if_pos h2, if_neg h3, if_neg h4]; exact hy
          · exact And.intro rfl (And.intro rfl (And.intro (Or.inl rfl) ⟨by rw [l_X3_readSum, if_neg h1, if_pos h2, if_neg h3, if_pos h4] <;> rfl, by rw [l_X3_readSum, if_neg h1, if_pos h2, if_neg h3, if_pos h4] <;> rfl⟩))
        · refine zCl.use (c_X6_next N σ (((hp h1).1 h2).2 h3).1) (Nat.le_trans (Nat.le_of_ble_eq_true rfl) hd) ?_
          rintro _ σz ⟨rfl, hz⟩
          subst σz
          refine zCl.use (hG 2 v1 0 (u_X3_readSum_h0_4 G N v1 v2 σ) (((hp h1).1 h2).2 h3).2.1) (Nat.le_refl d) ?_
          rintro _ σz ⟨rfl, hz⟩
          subst σz
          refine And.intro (fun (h6 : ¬ ((G 2 v1 0 (u_X3_readSum_h0_4 G N v1 v2 σ)).1) = 0) => ?_) (fun (h6 : ((G 2 v1 0 (u_X3_readSum_h0_4 G N v1 v2 σ)).1) = 0) => ?_)
          · refine And.intro ((((hp h1).1 h2).2 h3).2.2 h6).1.1 (fun q907 (e7 : (u_X3_readSum_h0_5 G N v1 v2 σ).2 2 1 = q907 + 1) => ?_)
            have g7 : q907 = ((u_X3_readSum_h0_5 G N v1 v2 σ).2 2 1 - 1) := by omega
            subst g7
            rw [((((hp h1).1 h2).2 h3).2.2 h6).1.2]
            refine zCl.use (c_X2_emit ((u_X3_readSum_h0_5 G N v1 v2 σ).2 2 1 - 1) 3 0 (u_X3_readSum_h0_5 G N v1 v2 σ) ((((hp h1).1 h2).2 h3).2.2 h6).2.1) (Nat.le_trans (Nat.le_of_ble_eq_true rfl) hd) ?_
            rintro _ σz ⟨rfl, hz⟩
            subst σz
            refine zWp.use (ih v1 (v2 + 1) (u_X3_readSum_h0_6 G N v1 v2 σ) ((((hp h1).1 h2).2 h3).2.2 h6).2.2) (And.intro rfl (And.intro rfl (And.intro rfl trivial))) (fun vy σy hy => ?_)
            rw [l_X3_readSum, if_neg h1, if_pos h2, if_pos h3, if_neg h6]; exact hy
          · exact And.intro rfl (And.intro rfl (And.intro (Or.inl rfl) ⟨by rw [l_X3_readSum, if_neg h1, if_pos h2, if_pos h3, if_pos h6] <;> rfl, by rw [l_X3_readSum, if_neg h1, if_pos h2, if_pos h3, if_pos h6] <;> rfl⟩))
      · refine And.intro (fun (h8 : ¬ (σ.1 3 2) = 45) => ?_) (fun (h8 : (σ.1 3 2) = 45) => ?_)
        · exact And.intro rfl (And.intro rfl (And.intro (Or.inr rfl) ⟨by rw [l_X3_readSum, if_neg h1, if_neg h2, if_neg h8] <;> rfl, by rw [l_X3_readSum, if_neg h1, if_neg h2, if_neg h8] <;> rfl⟩))
        · refine And.intro (fun (h9 : ¬ (σ.1 3 2) = 43) => ?_) (fun (h9 : (σ.1 3 2) = 43) => ?_)
          · refine zCl.use (c_X6_next N σ ((((hp h1).2 h2) h8).1 h9).1) (Nat.le_trans (Nat.le_of_ble_eq_true rfl) hd) ?_
            rintro _ σz ⟨rfl, hz⟩
            subst σz
            refine zCl.use (hG 2 v1 0 (u_X3_readSum_h0_7 G N v1 v2 σ) ((((hp h1).2 h2) h8).1 h9).2.1) (Nat.le_refl d) ?_
            rintro _ σz ⟨rfl, hz⟩
            subst σz
            refine And.intro (fun (h10 : ¬ ((G 2 v1 0 (u_X3_readSum_h0_7 G N v1 v2 σ)).1) = 0) => ?_) (fun (h10 : ((G 2 v1 0 (u_X3_readSum_h0_7 G N v1 v2 σ)).1) = 0) => ?_)
            · refine And.intro (((((hp h1).2 h2) h8).1 h9).2.2 h10).1.1 (fun q911 (e11 : (u_X3_readSum_h0_8 G N v1 v2 σ).2 2 1 = q911 + 1) => ?_)
              have g11 : q911 = ((u_X3_readSum_h0_8 G N v1 v2 σ).2 2 1 - 1) := by omega
              subst g11
              rw [(((((hp h1).2 h2) h8).1 h9).2.2 h10).1.2]
              refine zCl.use (c_X2_emit ((u_X3_readSum_h0_8 G N v1 v2 σ).2 2 1 - 1) 4 0 (u_X3_readSum_h0_8 G N v1 v2 σ) (((((hp h1).2 h2) h8).1 h9).2.2 h10).2.1) (Nat.le_trans (Nat.le_of_ble_eq_true rfl) hd) ?_
              rintro _ σz ⟨rfl, hz⟩
              subst σz
              refine zWp.use (ih v1 (v2 + 1) (u_X3_readSum_h0_9 G N v1 v2 σ) (((((hp h1).2 h2) h8).1 h9).2.2 h10).2.2) (And.intro rfl (And.intro rfl (And.intro rfl trivial))) (fun vy σy hy => ?_)
              rw [l_X3_readSum, if_neg h1, if_neg h2, if_pos h8, if_neg h9, if_neg h10]; exact hy
            · exact And.intro rfl (And.intro rfl (And.intro (Or.inl rfl) ⟨by rw [l_X3_readSum, if_neg h1, if_neg h2, if_pos h8, if_neg h9, if_pos h10] <;> rfl, by rw [l_X3_readSum, if_neg h1, if_neg h2, if_pos h8, if_neg h9, if_pos h10] <;> rfl⟩))
          · refine zCl.use (c_X6_next N σ ((((hp h1).2 h2) h8).2 h9).1) (Nat.le_trans (Nat.le_of_ble_eq_true rfl) hd) ?_
            rintro _ σz ⟨rfl, hz⟩
            subst σz
            refine zCl.use (hG 2 v1 0 (u_X3_readSum_h0_10 G N v1 v2 σ) ((((hp h1).2 h2) h8).2 h9).2.1) (Nat.le_refl d) ?_
            rintro _ σz ⟨rfl, hz⟩
            subst σz
            refine And.intro (fun (h12 : ¬ ((G 2 v1 0 (u_X3_readSum_h0_10 G N v1 v2 σ)).1) = 0) => ?_) (fun (h12 : ((G 2 v1 0 (u_X3_readSum_h0_10 G N v1 v2 σ)).1) = 0) => ?_)
            · refine And.intro (((((hp h1).2 h2) h8).2 h9).2.2 h12).1.1 (fun q913 (e13 : (u_X3_readSum_h0_11 G N v1 v2 σ).2 2 1 = q913 + 1) => ?_)
              have g13 : q913 = ((u_X3_readSum_h0_11 G N v1 v2 σ).2 2 1 - 1) := by omega
              subst g13
              rw [(((((hp h1).2 h2) h8).2 h9).2.2 h12).1.2]
              refine zCl.use (c_X2_emit ((u_X3_readSum_h0_11 G N v1 v2 σ).2 2 1 - 1) 3 0 (u_X3_readSum_h0_11 G N v1 v2 σ) (((((hp h1).2 h2) h8).2 h9).2.2 h12).2.1) (Nat.le_trans (Nat.le_of_ble_eq_true rfl) hd) ?_
              rintro _ σz ⟨rfl, hz⟩
              subst σz
              refine zWp.use (ih v1 (v2 + 1) (u_X3_readSum_h0_12 G N v1 v2 σ) (((((hp h1).2 h2) h8).2 h9).2.2 h12).2.2) (And.intro rfl (And.intro rfl (And.intro rfl trivial))) (fun vy σy hy => ?_)
              rw [l_X3_readSum, if_neg h1, if_neg h2, if_pos h8, if_pos h9, if_neg h12]; exact hy
            · exact And.intro rfl (And.intro rfl (And.intro (Or.inl rfl) ⟨by rw [l_X3_readSum, if_neg h1, if_neg h2, if_pos h8, if_pos h9, if_pos h12] <;> rfl, by rw [l_X3_readSum, if_neg h1, if_neg h2, if_pos h8, if_pos h9, if_pos h12] <;> rfl⟩))
def u_X3_readSum_1 (G : Nat → Int32 → Int32 → zS → Int32 × zS) (x1 : Int32) (N : Nat) (σ : zS) : zS := (G 2 x1 0 σ).2
def r_X3_readSum (G : Nat → Int32 → Int32 → zS → Int32 × zS) (x1 : Int32) (N : Nat) (σ : zS) : Int32 × zS := if ((G 2 x1 0 σ).1) = 0 then (0, (u_X3_readSum_1 G x1 N σ)) else (l_X3_readSum G N N x1 0 (u_X3_readSum_1 G x1 N σ))
def p_X3_readSum (P : Nat → Int32 → Int32 → zS → Prop) (G : Nat → Int32 → Int32 → zS → Int32 × zS) (x1 : Int32) (N : Nat) (σ : zS) : Prop := P 2 x1 0 σ ∧ (¬ ((G 2 x1 0 σ).1) = 0 → q_X3_readSum P G N N x1 0 (u_X3_readSum_1 G x1 N σ))
set_option maxRecDepth 100000 in
set_option maxHeartbeats 1000000 in
theorem c_X3_readSum {nx : Nat} (P : Nat → Int32 → Int32 → zS → Prop) (G : Nat → Int32 → Int32 → zS → Int32 × zS) (x1 : Int32) (N : Nat) (σ : zS) (d : Nat) (hd : 40 ≤ d) (hG : zGp d nx G P) (hp : p_X3_readSum P G x1 N σ) : zCl (d + 1) zall nx zall nx 45 [.inr (3, 12, 2), .inl x1] σ (fun v σ1 => v = some (.inl ((r_X3_readSum G x1 N σ).1)) ∧ σ1 = (r_X3_readSum G x1 N σ).2) := by
  refine zmeth (cd := kX3_readSum) [12] 1000 (Nat.le_of_ble_eq_true rfl) rfl okX3_readSum (Nat.le_refl _) (Nat.le_of_ble_eq_true rfl) ?_
  refine zCl.use (hG 2 x1 0 σ hp.1) (Nat.le_refl d) ?_
  rintro _ σz ⟨rfl, hz⟩
  subst σz
  refine And.intro (fun (h1 : ¬ ((G 2 x1 0 σ).1) = 0) => ?_) (fun (h1 : ((G 2 x1 0 σ).1) = 0) => ?_)
  · refine zWp.use ((w_X3_readSum P G N d hd hG N) x1 0 (u_X3_readSum_1 G x1 N σ) (hp.2 h1)) (And.intro rfl (And.intro rfl (And.intro rfl trivial))) (fun vy σy hy => ?_)
    rw [r_X3_readSum, if_neg h1]; exact hy
  · exact And.intro rfl (And.intro rfl (And.intro (Or.inl rfl) ⟨by rw [r_X3_readSum, if_pos h1] <;> rfl, by rw [r_X3_readSum, if_pos h1] <;> rfl⟩))
def u_X3_readTerm_h1_1 (G : Nat → Int32 → Int32 → zS → Int32 × zS) (N : Nat) (v1 : Int32) (v2 : Int32) (σ : zS) : zS := s_X6_next N σ
def u_X3_readTerm_h1_2 (G : Nat → Int32 → Int32 → zS → Int32 × zS) (N : Nat) (v1 : Int32) (v2 : Int32) (σ : zS) : zS := (G 3 v1 0 (u_X3_readTerm_h1_1 G N v1 v2 σ)).2
def u_X3_readTerm_h1_3 (G : Nat → Int32 → Int32 → zS → Int32 × zS) (N : Nat) (v1 : Int32) (v2 : Int32) (σ : zS) : zS := (r_X2_emit ((u_X3_readTerm_h1_2 G N v1 v2 σ).2 2 1 - 1) 7 0 (u_X3_readTerm_h1_2 G N v1 v2 σ)).2
def u_X3_readTerm_h1_4 (G : Nat → Int32 → Int32 → zS → Int32 × zS) (N : Nat) (v1 : Int32) (v2 : Int32) (σ : zS) : zS := s_X6_next N σ
def u_X3_readTerm_h1_5 (G : Nat → Int32 → Int32 → zS → Int32 × zS) (N : Nat) (v1 : Int32) (v2 : Int32) (σ : zS) : zS := (G 3 v1 0 (u_X3_readTerm_h1_4 G N v1 v2 σ)).2
def u_X3_readTerm_h1_6 (G : Nat → Int32 → Int32 → zS → Int32 × zS) (N : Nat) (v1 : Int32) (v2 : Int32) (σ : zS) : zS := (r_X2_emit ((u_X3_readTerm_h1_5 G N v1 v2 σ).2 2 1 - 1) 6 0 (u_X3_readTerm_h1_5 G N v1 v2 σ)).2
def u_X3_readTerm_h1_7 (G : Nat → Int32 → Int32 → zS → Int32 × zS) (N : Nat) (v1 : Int32) (v2 : Int32) (σ : zS) : zS := s_X6_next N σ
def u_X3_readTerm_h1_8 (G : Nat → Int32 → Int32 → zS → Int32 × zS) (N : Nat) (v1 : Int32) (v2 : Int32) (σ : zS) : zS := (G 3 v1 0 (u_X3_readTerm_h1_7 G N v1 v2 σ)).2
def u_X3_readTerm_h1_9 (G : Nat → Int32 → Int32 → zS → Int32 × zS) (N : Nat) (v1 : Int32) (v2 : Int32) (σ : zS) : zS := (r_X2_emit ((u_X3_readTerm_h1_8 G N v1 v2 σ).2 2 1 - 1) 5 0 (u_X3_readTerm_h1_8 G N v1 v2 σ)).2
def l_X3_readTerm (G : Nat → Int32 → Int32 → zS → Int32 × zS) (N : Nat) : Nat → Nat → Int32 → Int32 → zS → Int32 × zS
  | 0, _, _, _, σ => (0, σ)
  | n + 1, 0, v1, v2, σ => if 1000 ≤ v2 then (l_X3_readTerm G N n 2 v1 v2 σ) else (if (σ.1 3 2) = 42 then (l_X3_readTerm G N n 1 v1 v2 σ) else (if (σ.1 3 2) = 47 then (l_X3_readTerm G N n 1 v1 v2 σ) else (if (σ.1 3 2) = 37 then (l_X3_readTerm G N n 1 v1 v2 σ) else (l_X3_readTerm G N n 2 v1 v2 σ))))
  | n + 1, 1, v1, v2, σ => if (σ.1 3 2) = 42 then (if ((G 3 v1 0 (u_X3_readTerm_h1_7 G N v1 v2 σ)).1) = 0 then (0, (u_X3_readTerm_h1_8 G N v1 v2 σ)) else (l_X3_readTerm G N n 0 v1 (v2 + 1) (u_X3_readTerm_h1_9 G N v1 v2 σ))) else (if (σ.1 3 2) = 47 then (if ((G 3 v1 0 (u_X3_readTerm_h1_4 G N v1 v2 σ)).1) = 0 then (0, (u_X3_readTerm_h1_5 G N v1 v2 σ)) else (l_X3_readTerm G N n 0 v1 (v2 + 1) (u_X3_readTerm_h1_6 G N v1 v2 σ))) else (if ((G 3 v1 0 (u_X3_readTerm_h1_1 G N v1 v2 σ)).1) = 0 then (0, (u_X3_readTerm_h1_2 G N v1 v2 σ)) else (l_X3_readTerm G N n 0 v1 (v2 + 1) (u_X3_readTerm_h1_3 G N v1 v2 σ))))
  | n + 1, 2, v1, v2, σ => (1, σ)
  | _ + 1, _, _, _, σ => (0, σ)
def q_X3_readTerm (P : Nat → Int32 → Int32 → zS → Prop) (G : Nat → Int32 → Int32 → zS → Int32 × zS) (N : Nat) : Nat → Nat → Int32 → Int32 → zS → Prop
  | 0, _, _, _, _ => False
  | n + 1, 0, v1, v2, σ => (1000 ≤ v2 → q_X3_readTerm P G N n 2 v1 v2 σ) ∧ (¬ 1000 ≤ v2 → (((σ.1 3 2) = 42 → q_X3_readTerm P G N n 1 v1 v2 σ) ∧ (¬ (σ.1 3 2) = 42 → (((σ.1 3 2) = 47 → q_X3_readTerm P G N n 1 v1 v2 σ) ∧ (¬ (σ.1 3 2) = 47 → ((¬ (σ.1 3 2) = 37 → q_X3_readTerm P G N n 2 v1 v2 σ) ∧ ((σ.1 3 2) = 37 → q_X3_readTerm P G N n 1 v1 v2 σ)))))))
  | n + 1, 1, v1, v2, σ => (¬ (σ.1 3 2) = 42 → ((¬ (σ.1 3 2) = 47 → (p_X6_next N σ ∧ (P 3 v1 0 (u_X3_readTerm_h1_1 G N v1 v2 σ) ∧ (¬ ((G 3 v1 0 (u_X3_readTerm_h1_1 G N v1 v2 σ)).1) = 0 → (((u_X3_readTerm_h1_2 G N v1 v2 σ).2 2 1 ≠ 0 ∧ zlay ((u_X3_readTerm_h1_2 G N v1 v2 σ).2 2 1 - 1) = (2, 16)) ∧ (p_X2_emit ((u_X3_readTerm_h1_2 G N v1 v2 σ).2 2 1 - 1) 7 0 (u_X3_readTerm_h1_2 G N v1 v2 σ) ∧ q_X3_readTerm P G N n 0 v1 (v2 + 1) (u_X3_readTerm_h1_3 G N v1 v2 σ))))))) ∧ ((σ.1 3 2) = 47 → (p_X6_next N σ ∧ (P 3 v1 0 (u_X3_readTerm_h1_4 G N v1 v2 σ) ∧ (¬ ((G 3 v1 0 (u_X3_readTerm_h1_4 G N v1 v2 σ)).1) = 0 → (((u_X3_readTerm_h1_5 G N v1 v2 σ).2 2 1 ≠ 0 ∧ zlay ((u_X3_readTerm_h1_5 G N v1 v2 σ).2 2 1 - 1) = (2, 16)) ∧ (p_X2_emit ((u_X3_readTerm_h1_5 G N v1 v2 σ).2 2 1 - 1) 6 0 (u_X3_readTerm_h1_5 G N v1 v2 σ) ∧ q_X3_readTerm P G N n 0 v1 (v2 + 1) (u_X3_readTerm_h1_6 G N v1 v2 σ))))))))) ∧ ((σ.1 3 2) = 42 → (p_X6_next N σ ∧ (P 3 v1 0 (u_X3_readTerm_h1_7 G N v1 v2 σ) ∧ (¬ ((G 3 v1 0 (u_X3_readTerm_h1_7 G N v1 v2 σ)).1) = 0 → (((u_X3_readTerm_h1_8 G N v1 v2 σ).2 2 1 ≠ 0 ∧ zlay ((u_X3_readTerm_h1_8 G N v1 v2 σ).2 2 1 - 1) = (2, 16)) ∧ (p_X2_emit ((u_X3_readTerm_h1_8 G N v1 v2 σ).2 2 1 - 1) 5 0 (u_X3_readTerm_h1_8 G N v1 v2 σ) ∧ q_X3_readTerm P G N n 0 v1 (v2 + 1) (u_X3_readTerm_h1_9 G N v1 v2 σ)))))))
  | n + 1, 2, v1, v2, σ => True
  | _ + 1, _, _, _, _ => False
set_option maxRecDepth 100000 in
set_option maxHeartbeats 1000000 in
theorem w_X3_readTerm {nx : Nat} (P : Nat → Int32 → Int32 → zS → Prop) (G : Nat → Int32 → Int32 → zS → Int32 × zS) (N : Nat) (d : Nat) (hd : 40 ≤ d) (hG : zGp d nx G P) : ∀ n : Nat, (∀ (v1 : Int32) (v2 : Int32) (σ : zS), q_X3_readTerm P G N n 0 v1 v2 σ → zWp (d + 1) zall nx 46 (fun v σ1 => v = some (.inl ((l_X3_readTerm G N n 0 v1 v2 σ).1)) ∧ σ1 = (l_X3_readTerm G N n 0 v1 v2 σ).2) zall nx 12 [some (.inr (3, 12, 2)), some (.inl v1), some (.inl v2), none] [] σ) ∧ (∀ (v1 : Int32) (v2 : Int32) (σ : zS), q_X3_readTerm P G N n 1 v1 v2 σ → zWp (d + 1) zall nx 46 (fun v σ1 => v = some (.inl ((l_X3_readTerm G N n 1 v1 v2 σ).1)) ∧ σ1 = (l_X3_readTerm G N n 1 v1 v2 σ).2) zall nx 55 [some (.inr (3, 12, 2)), some (.inl v1), some (.inl v2), none] [] σ) ∧ (∀ (v1 : Int32) (v2 : Int32) (σ : zS), q_X3_readTerm P G N n 2 v1 v2 σ → zWp (d + 1) zall nx 46 (fun v σ1 => v = some (.inl ((l_X3_readTerm G N n 2 v1 v2 σ).1)) ∧ σ1 = (l_X3_readTerm G N n 2 v1 v2 σ).2) zall nx 124 [some (.inr (3, 12, 2)), some (.inl v1), some (.inl v2), none] [] σ) := by
  intro n
  induction n with
  | zero => exact ⟨fun _ _ _ h => h.elim, fun _ _ _ h => h.elim, fun _ _ _ h => h.elim⟩
  | succ n ih =>
    refine ⟨?_, ?_, ?_⟩
    · intro v1 v2 σ hp
      rw [q_X3_readTerm] at hp
      refine zvc_sound (cd := kX3_readTerm) (cs := [12, 55, 124]) rfl okX3_readTerm 1000 _ _ 12 (zseek kX3_readTerm 12) _ _ _ zseek_sub ?_
      refine And.intro (fun (h1 : 1000 ≤ v2) => ?_) (fun (h1 : ¬ 1000 ≤ v2) => ?_)
      · refine zWp.use (ih.2.2 v1 v2 σ (hp.1 h1)) (And.intro rfl (And.intro rfl (And.intro rfl trivial))) (fun vy σy hy => ?_)
        rw [l_X3_readTerm, if_pos h1]; exact hy
      · refine And.intro (fun (h2 : (σ.1 3 2) = 42) => ?_) (fun (h2 : ¬ (σ.1 3 2) = 42) => ?_)
        · refine zWp.use (ih.2.1 v1 v2 σ ((hp.2 h1).1 h2)) (And.intro rfl (And.intro rfl (And.intro rfl trivial))) (fun vy σy hy => ?_)
          rw [l_X3_readTerm, if_neg h1, if_pos h2]; exact hy
        · refine And.intro (fun (h3 : (σ.1 3 2) = 47) => ?_) (fun (h3 : ¬ (σ.1 3 2) = 47) => ?_)
          · refine zWp.use (ih.2.1 v1 v2 σ (((hp.2 h1).2 h2).1 h3)) (And.intro rfl (And.intro rfl (And.intro rfl trivial))) (fun vy σy hy => ?_)
            rw [l_X3_readTerm, if_neg h1, if_neg h2, if_pos h3]; exact hy
          · refine And.intro (fun (h4 : ¬ (σ.1 3 2) = 37) => ?_) (fun (h4 : (σ.1 3 2) = 37) => ?_)
            · refine zWp.use (ih.2.2 v1 v2 σ ((((hp.2 h1).2 h2).2 h3).1 h4)) (And.intro rfl (And.intro rfl (And.intro rfl trivial))) (fun vy σy hy => ?_)
              rw [l_X3_readTerm, if_neg h1, if_neg h2, if_neg h3, if_neg h4]; exact hy
            · refine zWp.use (ih.2.1 v1 v2 σ ((((hp.2 h1).2 h2).2 h3).2 h4)) (And.intro rfl (And.intro rfl (And.intro rfl trivial))) (fun vy σy hy => ?_)
              rw [l_X3_readTerm, if_neg h1, if_neg h2, if_neg h3, if_pos h4]; exact hy
    · intro v1 v2 σ hp
      rw [q_X3_readTerm] at hp
      refine zvc_sound (cd := kX3_readTerm) (cs := [12, 55, 124]) rfl okX3_readTerm 1000 _ _ 55 (zseek kX3_readTerm 55) _ _ _ zseek_sub ?_
      refine And.intro (fun (h1 : ¬ (σ.1 3 2) = 42) => ?_) (fun (h1 : (σ.1 3 2) = 42) => ?_)
      · refine And.intro (fun (h2 : ¬ (σ.1 3 2) = 47) => ?_) (fun (h2 : (σ.1 3 2) = 47) => ?_)
        · refine zCl.use (c_X6_next N σ ((hp.1 h1).1 h2).1) (Nat.le_trans (Nat.le_of_ble_eq_true rfl) hd) ?_
          rintro _ σz ⟨rfl, hz⟩
          subst σz
          refine zCl.use (hG 3 v1 0 (u_X3_readTerm_h1_1 G N v1 v2 σ) ((hp.1 h1).1 h2).2.1) (Nat.le_refl d) ?_
          rintro _ σz ⟨rfl, hz⟩
          subst σz
          refine And.intro (fun (h3 : ¬ ((G 3 v1 0 (u_X3_readTerm_h1_1 G N v1 v2 σ)).1) = 0) => ?_) (fun (h3 : ((G 3 v1 0 (u_X3_readTerm_h1_1 G N v1 v2 σ)).1) = 0) => ?_)
          · refine And.intro (((hp.1 h1).1 h2).2.2 h3).1.1 (fun q904 (e4 : (u_X3_readTerm_h1_2 G N v1 v2 σ).2 2 1 = q904 + 1) => ?_)
            have g4 : q904 = ((u_X3_readTerm_h1_2 G N v1 v2 σ).2 2 1 - 1) := by omega
            subst g4
            rw [(((hp.1 h1).1 h2).2.2 h3).1.2]
            refine zCl.use (c_X2_emit ((u_X3_readTerm_h1_2 G N v1 v2 σ).2 2 1 - 1) 7 0 (u_X3_readTerm_h1_2 G N v1 v2 σ) (((hp.1 h1).1 h2).2.2 h3).2.1) (Nat.le_trans (Nat.le_of_ble_eq_true rfl) hd) ?_
            rintro _ σz ⟨rfl, hz⟩
            subst σz
            refine zWp.use (ih.1 v1 (v2 + 1) (u_X3_readTerm_h1_3 G N v1 v2 σ) (((hp.1 h1).1 h2).2.2 h3).2.2) (And.intro rfl (And.intro rfl (And.intro rfl trivial))) (fun vy σy hy => ?_)
            rw [l_X3_readTerm, if_neg h1, if_neg h2, if_neg h3]; exact hy
          · exact And.intro rfl (And.intro rfl (And.intro (Or.inl rfl) ⟨by rw [l_X3_readTerm, if_neg h1, if_neg h2, if_pos h3] <;> rfl, by rw [l_X3_readTerm, if_neg h1, if_neg h2, if_pos h3] <;> rfl⟩))
        · refine zCl.use (c_X6_next N σ ((hp.1 h1).2 h2).1) (Nat.le_trans (Nat.le_of_ble_eq_true rfl) hd) ?_
          rintro _ σz ⟨rfl, hz⟩
          subst σz
          refine zCl.use (hG 3 v1 0 (u_X3_readTerm_h1_4 G N v1 v2 σ) ((hp.1 h1).2 h2).2.1) (Nat.le_refl d) ?_
          rintro _ σz ⟨rfl, hz⟩
          subst σz
          refine And.intro (fun (h5 : ¬ ((G 3 v1 0 (u_X3_readTerm_h1_4 G N v1 v2 σ)).1) = 0) => ?_) (fun (h5 : ((G 3 v1 0 (u_X3_readTerm_h1_4 G N v1 v2 σ)).1) = 0) => ?_)
          · refine And.intro (((hp.1 h1).2 h2).2.2 h5).1.1 (fun q906 (e6 : (u_X3_readTerm_h1_5 G N v1 v2 σ).2 2 1 = q906 + 1) => ?_)
            have g6 : q906 = ((u_X3_readTerm_h1_5 G N v1 v2 σ).2 2 1 - 1) := by omega
            subst g6
            rw [(((hp.1 h1).2 h2).2.2 h5).1.2]
            refine zCl.use (c_X2_emit ((u_X3_readTerm_h1_5 G N v1 v2 σ).2 2 1 - 1) 6 0 (u_X3_readTerm_h1_5 G N v1 v2 σ) (((hp.1 h1).2 h2).2.2 h5).2.1) (Nat.le_trans (Nat.le_of_ble_eq_true rfl) hd) ?_
            rintro _ σz ⟨rfl, hz⟩
            subst σz
            refine zWp.use (ih.1 v1 (v2 + 1) (u_X3_readTerm_h1_6 G N v1 v2 σ) (((hp.1 h1).2 h2).2.2 h5).2.2) (And.intro rfl (And.intro rfl (And.intro rfl trivial))) (fun vy σy hy => ?_)
            rw [l_X3_readTerm, if_neg h1, if_pos h2, if_neg h5]; exact hy
          · exact And.intro rfl (And.intro rfl (And.intro (Or.inl rfl) ⟨by rw [l_X3_readTerm, if_neg h1, if_pos h2, if_pos h5] <;> rfl, by rw [l_X3_readTerm, if_neg h1, if_pos h2, if_pos h5] <;> rfl⟩))
      · refine zCl.use (c_X6_next N σ (hp.2 h1).1) (Nat.le_trans (Nat.le_of_ble_eq_true rfl) hd) ?_
        rintro _ σz ⟨rfl, hz⟩
        subst σz
        refine zCl.use (hG 3 v1 0 (u_X3_readTerm_h1_7 G N v1 v2 σ) (hp.2 h1).2.1) (Nat.le_refl d) ?_
        rintro _ σz ⟨rfl, hz⟩
        subst σz
        refine And.intro (fun (h7 : ¬ ((G 3 v1 0 (u_X3_readTerm_h1_7 G N v1 v2 σ)).1) = 0) => ?_) (fun (h7 : ((G 3 v1 0 (u_X3_readTerm_h1_7 G N v1 v2 σ)).1) = 0) => ?_)
        · refine And.intro ((hp.2 h1).2.2 h7).1.1 (fun q908 (e8 : (u_X3_readTerm_h1_8 G N v1 v2 σ).2 2 1 = q908 + 1) => ?_)
          have g8 : q908 = ((u_X3_readTerm_h1_8 G N v1 v2 σ).2 2 1 - 1) := by omega
          subst g8
          rw [((hp.2 h1).2.2 h7).1.2]
          refine zCl.use (c_X2_emit ((u_X3_readTerm_h1_8 G N v1 v2 σ).2 2 1 - 1) 5 0 (u_X3_readTerm_h1_8 G N v1 v2 σ) ((hp.2 h1).2.2 h7).2.1) (Nat.le_trans (Nat.le_of_ble_eq_true rfl) hd) ?_
          rintro _ σz ⟨rfl, hz⟩
          subst σz
          refine zWp.use (ih.1 v1 (v2 + 1) (u_X3_readTerm_h1_9 G N v1 v2 σ) ((hp.2 h1).2.2 h7).2.2) (And.intro rfl (And.intro rfl (And.intro rfl trivial))) (fun vy σy hy => ?_)
          rw [l_X3_readTerm, if_pos h1, if_neg h7]; exact hy
        · exact And.intro rfl (And.intro rfl (And.intro (Or.inl rfl) ⟨by rw [l_X3_readTerm, if_pos h1, if_pos h7] <;> rfl, by rw [l_X3_readTerm, if_pos h1, if_pos h7] <;> rfl⟩))
    · intro v1 v2 σ _
      refine zvc_sound (cd := kX3_readTerm) (cs := [12, 55, 124]) rfl okX3_readTerm 1000 _ _ 124 (zseek kX3_readTerm 124) _ _ _ zseek_sub ?_
      exact And.intro rfl (And.intro rfl (And.intro (Or.inr rfl) ⟨by rw [l_X3_readTerm] <;> rfl, by rw [l_X3_readTerm] <;> rfl⟩))
def u_X3_readTerm_1 (G : Nat → Int32 → Int32 → zS → Int32 × zS) (x1 : Int32) (N : Nat) (σ : zS) : zS := (G 3 x1 0 σ).2
def r_X3_readTerm (G : Nat → Int32 → Int32 → zS → Int32 × zS) (x1 : Int32) (N : Nat) (σ : zS) : Int32 × zS := if ((G 3 x1 0 σ).1) = 0 then (0, (u_X3_readTerm_1 G x1 N σ)) else (l_X3_readTerm G N N 0 x1 0 (u_X3_readTerm_1 G x1 N σ))
def p_X3_readTerm (P : Nat → Int32 → Int32 → zS → Prop) (G : Nat → Int32 → Int32 → zS → Int32 × zS) (x1 : Int32) (N : Nat) (σ : zS) : Prop := P 3 x1 0 σ ∧ (¬ ((G 3 x1 0 σ).1) = 0 → q_X3_readTerm P G N N 0 x1 0 (u_X3_readTerm_1 G x1 N σ))
set_option maxRecDepth 100000 in
set_option maxHeartbeats 1000000 in
theorem c_X3_readTerm {nx : Nat} (P : Nat → Int32 → Int32 → zS → Prop) (G : Nat → Int32 → Int32 → zS → Int32 × zS) (x1 : Int32) (N : Nat) (σ : zS) (d : Nat) (hd : 40 ≤ d) (hG : zGp d nx G P) (hp : p_X3_readTerm P G x1 N σ) : zCl (d + 1) zall nx zall nx 46 [.inr (3, 12, 2), .inl x1] σ (fun v σ1 => v = some (.inl ((r_X3_readTerm G x1 N σ).1)) ∧ σ1 = (r_X3_readTerm G x1 N σ).2) := by
  refine zmeth (cd := kX3_readTerm) [12, 55, 124] 1000 (Nat.le_of_ble_eq_true rfl) rfl okX3_readTerm (Nat.le_refl _) (Nat.le_of_ble_eq_true rfl) ?_
  refine zCl.use (hG 3 x1 0 σ hp.1) (Nat.le_refl d) ?_
  rintro _ σz ⟨rfl, hz⟩
  subst σz
  refine And.intro (fun (h1 : ¬ ((G 3 x1 0 σ).1) = 0) => ?_) (fun (h1 : ((G 3 x1 0 σ).1) = 0) => ?_)
  · refine zWp.use ((w_X3_readTerm P G N d hd hG N).1 x1 0 (u_X3_readTerm_1 G x1 N σ) (hp.2 h1)) (And.intro rfl (And.intro rfl (And.intro rfl trivial))) (fun vy σy hy => ?_)
    rw [r_X3_readTerm, if_neg h1]; exact hy
  · exact And.intro rfl (And.intro rfl (And.intro (Or.inl rfl) ⟨by rw [r_X3_readTerm, if_pos h1] <;> rfl, by rw [r_X3_readTerm, if_pos h1] <;> rfl⟩))
