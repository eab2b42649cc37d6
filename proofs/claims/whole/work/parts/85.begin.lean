/-! a task begins, or comes back -/
theorem nx_wat {W q f : Nat} (hq : q < W) (hf : f + 1 < W) : nxw W (wat W q (f + 1)) = wat W q f := by
  unfold wat nxw
  split <;> split <;> split <;> omega
theorem nx_inj {W a b : Nat} (ha : a < W) (hb : b < W) (h : nxw W a = nxw W b) : a = b := by
  unfold nxw at h
  split at h <;> split at h <;> omega
theorem wf_eld {A : Nat → Int32} {W p u : Nat} {D RS TP ST : Nat → Nat} (h : WF A W D RS TP ST) (hp : p < W) (hu : u < 4) (ho : A (12 + nxw W p) = nI u) (hpr : A (12 + p) = -1 ∨ ∃ v, v < 4 ∧ 1 ≤ RS v ∧ TP v = p) : 1 ≤ RS u ∧ nxw W p = wat W (TP u) (RS u - 1) ∧ (TP u = p → 2 ≤ RS u) := by
  have hW := h.1
  have hx : nxw W p < W := nxw_lt hW.1
  obtain ⟨f, f1, f2⟩ : ∃ f, f < RS u ∧ nxw W p = wat W (TP u) f := by
    rcases h.2.2.1.1 _ hx with y | ⟨t, f, y1, y2, y3, y4⟩
    · rw [ho] at y
      exact absurd y (m1_ne hu)
    · have : t = u := (nI_eq (by omega) (by omega)).mp (y3.symm.trans ho)
      subst this
      exact ⟨f, y2, y4⟩
  obtain ⟨hRW, hTP⟩ := h.lim hu
  have hTP := hTP (by omega)
  have ef : f = RS u - 1 := by
    apply Classical.byContradiction
    intro c
    have e : p = wat W (TP u) (f + 1) := nx_inj hp (wat_lt hTP (by omega)) (by rw [nx_wat hTP (by omega)]; exact f2)
    have q := (h.2.2.1.2 u (f + 1) hu (by omega)).1
    rcases hpr with y | ⟨v, v1, v2, v3⟩
    · rw [← e, y] at q
      exact m1_ne hu q.symm
    · have := h.2.2.1.one hu v1 (show f + 1 < RS u by omega) v2 (fun t ht => (h.lim ht).1) (by rw [wat_0, v3]; exact e.symm)
      omega
  refine ⟨by omega, by rw [f2, ef], fun e => ?_⟩
  have e2 := wat_last hTP
  rw [e, f2, ef, e] at e2
  have := wat_inj (W := W) (p := p) (f := W - 1) (g := RS u - 1) (by omega) (by omega) e2
  omega
/-- which window was used last, which is wanted -/
def WFu (A : Nat → Int32) (W : Nat) (RS TP : Nat → Nat) : Prop := (A 10 = -1 ∧ ∀ t, t < 4 → RS t = 0) ∨ ∃ p, p < W ∧ A 10 = nI p ∧ (A (12 + p) = -1 ∨ ∃ v, v < 4 ∧ 1 ≤ RS v ∧ TP v = p)
theorem wanted_ok {sl al r W n B : Nat} {σ τ : zS} {A : Nat → Int32} {D RS TP ST : Nat → Nat} (hs : CSt σ r W n) (hC : CRel sl al σ r A) (hK : WK τ B W n) (hM : MRel τ A) (h : WF A W D RS TP ST) (hu : WFu A W RS TP) (hU : σ.1 r 12 = A 10) : ∃ w, w < W ∧ (if (σ.1 r 12) = (-1) then 0 else f_X4_behind r (σ.1 r 12) σ) = nI w ∧ f_X9_wanted τ = nI w ∧ p_X9_wanted τ ∧ (A (12 + w) = -1 ∨ ∃ u, u < 4 ∧ 1 ≤ RS u ∧ A (12 + w) = nI u ∧ w = wat W (TP u) (RS u - 1)) := by
  have hW := h.1
  have e10 : σ.1 r 12 = A 10 := hU
  have m10 : τ.1 469 10 = A 10 := hM 10 (by omega)
  unfold f_X9_wanted p_X9_wanted
  rw [e10, m10]
  rcases hu with ⟨h1, h2⟩ | ⟨p, hp, h1, h2⟩
  · rw [h1, if_pos rfl, if_neg (by decide)]
    refine ⟨0, by omega, rfl, rfl, fun z => absurd z (by decide), ?_⟩
    rcases h.2.2.1.1 0 (by omega) with y | ⟨t, f, y1, y2, -, -⟩
    · exact Or.inl y
    · rw [h2 t y1] at y2
      omega
  · have hne : ¬ nI p = -1 := fun z => absurd (show (0 : Int32) ≤ -1 by rw [← z]; exact nI_pos' (by omega)) (by decide)
    obtain ⟨b1, b2, -⟩ := rf_behind hK hW hp
    rw [h1, if_neg hne, if_pos (nI_pos' (by omega)), cl_behind hs hW hp]
    refine ⟨nxw W p, nxw_lt hW.1, rfl, b1, fun _ => b2, ?_⟩
    rcases h.2.2.1.1 _ (nxw_lt hW.1) with y | ⟨t, f, y1, y2, y3, y4⟩
    · exact Or.inl y
    · obtain ⟨z1, z2, -⟩ := wf_eld h hp y1 y3 h2
      exact Or.inr ⟨t, y1, z1, y3, z2⟩
theorem rf_come {t w : Nat} {τ : zS} {A : Nat → Int32} (hM : MRel τ A) (ht : t < 4) (hw : w < 12) : p_X9_come (nI t) (nI w) τ ∧ MRel (s_X9_come (nI t) (nI w) τ) (upd (upd (upd (upd A (148 + 20 * t) (nI w)) (138 + 20 * t) 1) (12 + w) (nI t)) (24 + w) (A (137 + 20 * t))) ∧ rfr sN τ (s_X9_come (nI t) (nI w) τ) := by
  have i12 : (f_X9_atTask (nI t) 12).toNatClampNeg = 148 + 20 * t := by rw [at_12, nI_clamp (by omega)]; omega
  have i2 : (f_X9_atTask (nI t) 2).toNatClampNeg = 138 + 20 * t := by rw [at_2, nI_clamp (by omega)]; omega
  have M2 : MRel (zuI (zuI τ 469 (148 + 20 * t) (nI w)) 469 (138 + 20 * t) 1) (upd (upd A (148 + 20 * t) (nI w)) (138 + 20 * t) 1) := hM.up.up
  obtain ⟨fr1, fr2, -⟩ := rf_frm M2 ht
  have eF : f_X9_frames (nI t) (zuI (zuI τ 469 (148 + 20 * t) (nI w)) 469 (138 + 20 * t) 1) = A (137 + 20 * t) := by rw [fr1, pk_un (by omega), pk_un (by omega)]
  obtain ⟨q1, q2, q3⟩ := rf_place (w := w) (x := nI t) (y := A (137 + 20 * t)) M2 hw
  have ec : s_X9_come (nI t) (nI w) τ = s_X9_place (nI w) (nI t) (A (137 + 20 * t)) (zuI (zuI τ 469 (148 + 20 * t) (nI w)) 469 (138 + 20 * t) 1) := by
    unfold s_X9_come u_X9_come_3 u_X9_come_2 u_X9_come_1
    rw [i12, i2, eF]
  refine ⟨?_, by rw [ec]; exact q2, ?_⟩
  · unfold p_X9_come u_X9_come_2 u_X9_come_1
    rw [i12, i2, eF]
    refine ⟨?_, ?_, fr2, q1⟩
    · rw [at_12]
      exact vp_in_nI (by omega) (by decide)
    · rw [at_2]
      exact vp_in_nI (by omega) (by decide)
  · rw [ec]
    exact ((rfr.rf.uI (show sN _ _ from ⟨rfl, by omega⟩)).uI (show sN _ _ from ⟨rfl, by omega⟩)).tr q3
/-- the class's frame of a ring method -/
def sX (r : Nat) (q j : Nat) : Prop := sRm r q j ∨ ∃ t, t < 4 ∧ q = r + 5 + 5 * t ∧ (j = 3 ∨ j = 9 ∨ j = 11)
def kb2 (o : Nat) (x1 x : Int32) (N : Nat) (σ : zS) : zS := zuI (s_X4_makeRoom o x1 x N σ) (f_X4_taskAt o x1 (s_X4_makeRoom o x1 x N σ)) 3 x
def kb3 (o : Nat) (x1 x : Int32) (N : Nat) (σ : zS) : zS := s_X4_moveIn o x1 ((kb2 o x1 x N σ).1 ((f_X4_taskAt o x1 (s_X4_makeRoom o x1 x N σ)) + 1) 0) x (kb2 o x1 x N σ)
def kb4 (o : Nat) (x1 x : Int32) (N : Nat) (σ : zS) : zS := zuI (kb3 o x1 x N σ) (f_X4_taskAt o x1 (s_X4_makeRoom o x1 x N σ)) 11 (((kb3 o x1 x N σ).1 (f_X4_taskAt o x1 (s_X4_makeRoom o x1 x N σ)) 11) + 1)
def kb5 (o : Nat) (x1 x : Int32) (N : Nat) (σ : zS) : zS := zuI (kb4 o x1 x N σ) (f_X4_taskAt o x1 (s_X4_makeRoom o x1 x N σ)) 9 (((kb4 o x1 x N σ).1 (f_X4_taskAt o x1 (s_X4_makeRoom o x1 x N σ)) 9) + 1)
theorem kb_eq {o N : Nat} {x1 x : Int32} {σ : zS} (hx : (if (σ.1 o 12) = (-1) then 0 else f_X4_behind o (σ.1 o 12) σ) = x) : s_X4_comeBack o x1 N σ = s_X4_noteTrap o 2 x1 1 x1 (kb5 o x1 x N σ) ∧ ((p_X4_makeRoom o x1 x N σ ∧ (p_X4_taskAt o x1 (s_X4_makeRoom o x1 x N σ) ∧ (p_X4_moveIn o x1 ((kb2 o x1 x N σ).1 ((f_X4_taskAt o x1 (s_X4_makeRoom o x1 x N σ)) + 1) 0) x (kb2 o x1 x N σ) ∧ p_X4_noteTrap o 2 x1 1 x1 (kb5 o x1 x N σ)))) → p_X4_comeBack o x1 N σ) := by
  subst hx
  unfold s_X4_comeBack p_X4_comeBack
  by_cases c : σ.1 o 12 = -1
  · rw [if_pos c, if_pos c]
    exact ⟨rfl, fun h => ⟨fun y => absurd c y, fun _ => h⟩⟩
  · rw [if_neg c, if_neg c]
    exact ⟨rfl, fun h => ⟨fun _ => h, fun y => absurd y c⟩⟩
theorem pr_back {sl al r t W n N B T M d : Nat} {σ τ : zS} {A : Nat → Int32} {D RS TP ST : Nat → Nat} {dT dM : Int32} (hl : Rly r) (hN : 500 < N) (hs : CSt σ r W n) (hC : CRel sl al σ r A) (hO : COf al σ r A dT dM T M) (hT : T < 2 ^ 28) (h3 : ∀ t, t < 4 → 1 ≤ RS t → σ.1 (r + 5 + 5 * t) 3 = nI (TP t)) (hK : WK τ B W n) (hM : MRel τ A) (h : WF A W D RS TP ST) (hu : WFu A W RS TP) (hU : σ.1 r 12 = A 10) (ht : t < 4) (hR : RS t = 0) (hD : D t = d) (hd : 1 ≤ d) : p_X4_comeBack r (nI t) N σ ∧ p_X9_comeBack (nI t) N τ ∧ ∃ (A' : Nat → Int32) (RS' : Nat → Nat) (T' M' w : Nat), CRel sl al (s_X4_comeBack r (nI t) N σ) r A' ∧ CSt (s_X4_comeBack r (nI t) N σ) r W n ∧ COf al (s_X4_comeBack r (nI t) N σ) r A' dT dM T' M' ∧ rfr (sX r) σ (s_X4_comeBack r (nI t) N σ) ∧ (∀ v, v < 4 → 1 ≤ RS' v → (s_X4_comeBack r (nI t) N σ).1 (r + 5 + 5 * v) 3 = nI (fu TP t w v)) ∧ MRel (s_X9_comeBack (nI t) N τ) A' ∧ rfr sN τ (s_X9_comeBack (nI t) N τ) ∧ WF A' W D RS' (fu TP t w) ST ∧ RS' t = 1 ∧ (T ≤ T' ∧ T' ≤ T + 2) ∧ (M ≤ M' ∧ M' ≤ M + 13) ∧ (∀ i, (i = 0 ∨ (3 ≤ i ∧ i ≤ 10) ∨ ∃ u, u < 4 ∧ (i = 136 + 20 * u ∨ i = 137 + 20 * u ∨ i = 139 + 20 * u ∨ i = 140 + 20 * u ∨ i = 147 + 20 * u)) → A' i = A i) := by
  have hW := h.1
  obtain ⟨w, hw, e1, e2, e3, e4⟩ := wanted_ok hs hC hK hM h hu hU
  obtain ⟨k1, k2⟩ := kb_eq (o := r) (N := N) (x1 := nI t) e1
  have hE : A (12 + w) = -1 ∨ ∃ u, u < 4 ∧ 1 ≤ RS u ∧ A (12 + w) = nI u ∧ w = wat W (TP u) (RS u - 1) ∧ (u = t → (0 : Nat) = 1 ∧ 2 ≤ RS t) := by
    rcases e4 with y | ⟨u, y1, y2, y3, y4⟩
    · exact Or.inl y
    · exact Or.inr ⟨u, y1, y2, y3, y4, fun z => by rw [z, hR] at y2; omega⟩
  obtain ⟨p1, p2, A1, RS1, T1, M1, g1, g2, g3, g4, g5, g6, g7, g8, g9, g10, g11, g12, -⟩ := pr_room (cl := 0) hl hN hs hC hO (by omega) h3 hK hM h ht hw (by omega) hE
  have p2 : p_X9_makeRoom (nI t) (nI w) 0 N τ := p2
  have g5 : MRel (s_X9_makeRoom (nI t) (nI w) 0 N τ) A1 := g5
  have g6 : rfr sN τ (s_X9_makeRoom (nI t) (nI w) 0 N τ) := g6
  unfold kb5 kb4 kb3 kb2 at k1 k2
  rw [k1]
  unfold s_X9_comeBack u_X9_comeBack_5 u_X9_comeBack_4 u_X9_comeBack_3 u_X9_comeBack_2 u_X9_comeBack_1 p_X9_comeBack u_X9_comeBack_4 u_X9_comeBack_3 u_X9_comeBack_2 u_X9_comeBack_1
  rw [e2]
  generalize s_X4_makeRoom r (nI t) (nI w) N σ = σ0 at g1 g2 g3 g4 k2
  generalize s_X9_makeRoom (nI t) (nI w) 0 N τ = τ0 at g5 g6
  have tk := tk_eq g2.2.2 ht
  rw [tk] at k2
  rw [tk]
  have hR1 : RS1 t = 0 := by have := g12 t; omega
  obtain ⟨w1, -, wD, wD6, wR, -, -, wS, -⟩ := g7.2.1 t ht
  rw [hR1] at wR
  rw [hD] at wD wD6 wS
  have hST : ST t = 1 := wS.mpr hd
  have l3 : ∀ i, ¬ Lk sl al r (r + 5 + 5 * t) 3 i := fun i y => by
    unfold Lk at y
    rcases y with y | y | y | ⟨u, y⟩ | ⟨u, y⟩ <;> omega
  have l9 : Lk sl al r (r + 5 + 5 * t) 9 (144 + 20 * t) := by
    have := lk_t (sl := sl) (al := al) (r := r) (t := t) (k := 9) ht (by omega) (by omega)
    rw [show 135 + 20 * t + 9 = 144 + 20 * t by omega] at this
    exact this
  have l11 : Lk sl al r (r + 5 + 5 * t) 11 (146 + 20 * t) := by
    have := lk_t (sl := sl) (al := al) (r := r) (t := t) (k := 11) ht (by omega) (by omega)
    rw [show 135 + 20 * t + 11 = 146 + 20 * t by omega] at this
    exact this
  have C1 : CRel sl al (zuI σ0 (r + 5 + 5 * t) 3 (nI w)) r (upd A1 (148 + 20 * t) (nI w)) := (g1.sk l3).any (lk_no (by
    right; right; right; right; right
    exact ⟨t, ht, by omega⟩))
  have S1 : CSt (zuI σ0 (r + 5 + 5 * t) 3 (nI w)) r W n := g2.uI (by omega)
  have ed : (zuI σ0 (r + 5 + 5 * t) 3 (nI w)).1 (r + 5 + 5 * t + 1) 0 = nI d := by
    rw [gI_n (by omega), show r + 5 + 5 * t + 1 = r + 6 + 5 * t by omega, g1 _ _ _ (lk_d ht), wD]
  rw [ed] at k2
  rw [ed]
  obtain ⟨o1, o2, o3, o4⟩ := cl_in (f := nI d) (w := w) hl S1 C1 ht (by omega)
  generalize s_X4_moveIn r (nI t) (nI d) (nI w) (zuI σ0 (r + 5 + 5 * t) 3 (nI w)) = σ2 at k2 o2 o3 o4
  have nA : ∀ i, ¬ i = 12 + w → ¬ i = 24 + w → ¬ i = 138 + 20 * t → ¬ i = 148 + 20 * t → aIn (upd A1 (148 + 20 * t) (nI w)) t (nI d) w i = A1 i := fun i n1 n2 n3 n4 => by
    unfold aIn
    rw [pk_un n3, pk_un n2, pk_un n1, pk_un n4]
  have eA2 : upd (upd (upd (upd A1 (148 + 20 * t) (nI w)) (138 + 20 * t) 1) (12 + w) (nI t)) (24 + w) (A1 (137 + 20 * t)) = aIn (upd A1 (148 + 20 * t) (nI w)) t (nI d) w := by
    unfold aIn
    rw [pk_un (by omega), wR, wD, upd_c (i := 138 + 20 * t) (j := 12 + w) (by omega), upd_c (i := 138 + 20 * t) (j := 24 + w) (by omega)]
    rfl
  have WC : WF (aIn (upd A1 (148 + 20 * t) (nI w)) t (nI d) w) W D (fu RS1 t 1) (fu TP t w) ST := by
    have := wf_come (A1 := aIn (upd A1 (148 + 20 * t) (nI w)) t (nI d) w) (d := d) g7 ht hR1 ⟨hd, wD6⟩ hw g8 (fun i _ n1 n2 n3 n4 n5 n6 => nA i n5 n6 n3 n4) (by rw [nA _ (by omega) (by omega) (by omega) (by omega), w1, hST]) (by rw [nA _ (by omega) (by omega) (by omega) (by omega), wD]) (by
      unfold aIn
      rw [pk_us, pk_un (by omega), wR]
      rfl) (by
      unfold aIn
      rw [pk_un (by omega), pk_un (by omega), pk_un (by omega), pk_us]) (by
      unfold aIn
      rw [pk_un (by omega), pk_un (by omega), pk_us]) (by
      unfold aIn
      rw [pk_un (by omega), pk_us])
    rw [fu_e hD, fu_e hST] at this
    exact this
  obtain ⟨m1, m2, m3⟩ := rf_come g5 ht (show w < 12 by omega)
  rw [eA2] at m2
  generalize s_X9_come (nI t) (nI w) τ0 = τ2 at m2 m3
  generalize hA2 : aIn (upd A1 (148 + 20 * t) (nI w)) t (nI d) w = A2 at o2 m2 WC nA
  have i8 : (f_X9_atTask (nI t) 8).toNatClampNeg = 144 + 20 * t := by rw [at_8, nI_clamp (by omega)]; omega
  have i10 : (f_X9_atTask (nI t) 10).toNatClampNeg = 146 + 20 * t := by rw [at_10, nI_clamp (by omega)]; omega
  rw [i8, i10]
  have q1 : σ2.1 (r + 5 + 5 * t) 11 = A2 (146 + 20 * t) := o2 _ _ _ l11
  have q2 : (zuI σ2 (r + 5 + 5 * t) 11 (A2 (146 + 20 * t) + 1)).1 (r + 5 + 5 * t) 9 = A2 (144 + 20 * t) := by rw [gI_n (by omega)]; exact o2 _ _ _ l9
  rw [q1, q2] at k2
  rw [q1, q2]
  have q3 : τ2.1 469 (144 + 20 * t) = A2 (144 + 20 * t) := m2 _ (by omega)
  have q4 : (zuI τ2 469 (144 + 20 * t) (A2 (144 + 20 * t) + 1)).1 469 (146 + 20 * t) = A2 (146 + 20 * t) := by rw [gI_n (by omega)]; exact m2 _ (by omega)
  rw [q3, q4]
  have C4 : CRel sl al (zuI (zuI σ2 (r + 5 + 5 * t) 11 (A2 (146 + 20 * t) + 1)) (r + 5 + 5 * t) 9 (A2 (144 + 20 * t) + 1)) r (upd (upd A2 (146 + 20 * t) (A2 (146 + 20 * t) + 1)) (144 + 20 * t) (A2 (144 + 20 * t) + 1)) := (o2.up l11).up l9
  have S4 : CSt (zuI (zuI σ2 (r + 5 + 5 * t) 11 (A2 (146 + 20 * t) + 1)) (r + 5 + 5 * t) 9 (A2 (144 + 20 * t) + 1)) r W n := (o3.uI (by omega)).uI (by omega)
  have M4 : MRel (zuI (zuI τ2 469 (144 + 20 * t) (A2 (144 + 20 * t) + 1)) 469 (146 + 20 * t) (A2 (146 + 20 * t) + 1)) (upd (upd A2 (146 + 20 * t) (A2 (146 + 20 * t) + 1)) (144 + 20 * t) (A2 (144 + 20 * t) + 1)) := by
    rw [upd_c (by omega)]
    exact m2.up.up
  generalize hA4 : upd (upd A2 (146 + 20 * t) (A2 (146 + 20 * t) + 1)) (144 + 20 * t) (A2 (144 + 20 * t) + 1) = A4 at C4 M4
  have n4 : ∀ i, ¬ i = 146 + 20 * t → ¬ i = 144 + 20 * t → A4 i = A2 i := fun i n1 n2 => by rw [← hA4, pk_un n2, pk_un n1]
  have cells : ∀ q j, (q = r ∧ (j = 10 ∨ j = 11)) ∨ q = r + 3 → (zuI (zuI σ2 (r + 5 + 5 * t) 11 (A2 (146 + 20 * t) + 1)) (r + 5 + 5 * t) 9 (A2 (144 + 20 * t) + 1)).1 q j = σ0.1 q j := fun q j y => by
    rw [gI_n (by omega), gI_n (by omega), o4.2 q j (fun z => by unfold sW at z; omega), gI_n (by omega)]
  have O4 : COf al (zuI (zuI σ2 (r + 5 + 5 * t) 11 (A2 (146 + 20 * t) + 1)) (r + 5 + 5 * t) 9 (A2 (144 + 20 * t) + 1)) r A4 dT dM T1 M1 := by
    refine g3.eq (cells _ _ (by omega)) (cells _ _ (by omega)) (fun j => cells _ _ (by omega)) (fun i hi => ?_)
    rw [n4 _ (by omega) (by omega), nA _ (by omega) (by omega) (by omega) (by omega)]
  obtain ⟨t1, t2, t3, t4, t5⟩ := cl_trap (kd := 2) (t := nI t) (o := nI t) (m := 1) S4 C4 O4 (by omega)
  obtain ⟨b1, b2, b3⟩ := rf_trap (N := N) (kd := 2) (t := nI t) (m := nI 1) (o := nI t) (by omega) M4
  have F4 : rfr (sX r) σ (zuI (zuI σ2 (r + 5 + 5 * t) 11 (A2 (146 + 20 * t) + 1)) (r + 5 + 5 * t) 9 (A2 (144 + 20 * t) + 1)) := by
    refine rfr.uI (rfr.uI ((g4.wk (fun q j y => Or.inl y)).tr ((rfr.rf.uI (x := nI w) (show sX r (r + 5 + 5 * t) 3 from Or.inr ⟨t, ht, rfl, by omega⟩)).tr (o4.wk (fun q j y => ?_)))) (Or.inr ⟨t, ht, rfl, by omega⟩)) (Or.inr ⟨t, ht, rfl, by omega⟩)
    unfold sW at y
    rcases y with y | y
    · left
      unfold sRm
      omega
    · exact Or.inl (Or.inr (Or.inr (Or.inr (Or.inr ⟨t, ht, y.1, by omega⟩))))
  have F5 : rfr (sX r) σ (s_X4_noteTrap r 2 (nI t) (nI 1) (nI t) (zuI (zuI σ2 (r + 5 + 5 * t) 11 (A2 (146 + 20 * t) + 1)) (r + 5 + 5 * t) 9 (A2 (144 + 20 * t) + 1))) := F4.tr (t5.wk (fun q j y => by
    unfold sT at y
    left
    unfold sRm
    omega))
  refine ⟨k2 ⟨p1, tk_p hl g2.2.2 ht, o1, t1⟩, ⟨e3, p2, m1, ?_, ?_, b1⟩, aTrap A4 2 (nI t) (nI 1) (nI t), fu RS1 t 1, T1 + 1, M1 + 1, w, t2, t4, t3, F5, fun v hv hv1 => ?_, b2, (((g6.tr m3).uI (show sN _ _ from ⟨rfl, by omega⟩)).uI (show sN _ _ from ⟨rfl, by omega⟩)).tr b3, ?_, fu_s, by omega, by omega, fun i hi => ?_⟩
  · rw [at_8]
    exact vp_in_nI (by omega) (by decide)
  · rw [at_10]
    exact vp_in_nI (by omega) (by decide)
  · have ne : (s_X4_noteTrap r 2 (nI t) (nI 1) (nI t) (zuI (zuI σ2 (r + 5 + 5 * t) 11 (A2 (146 + 20 * t) + 1)) (r + 5 + 5 * t) 9 (A2 (144 + 20 * t) + 1))).1 (r + 5 + 5 * v) 3 = (zuI σ0 (r + 5 + 5 * t) 3 (nI w)).1 (r + 5 + 5 * v) 3 := by
      rw [t5.2 _ _ (fun z => by unfold sT at z; omega), gI_n (by omega), gI_n (by omega), o4.2 _ _ (fun z => by unfold sW at z; omega)]
    refine Eq.trans (show _ = _ from ne) ?_
    by_cases c : v = t
    · subst c
      rw [gI_h rfl rfl, fu_s]
    · rw [fu_n c] at hv1
      have := g12 v
      rw [gI_n (by omega), fu_n c, g4.2 _ _ (fun z => by
        unfold sRm at z
        rcases z with z | z | z | z | ⟨u, z⟩ <;> omega)]
      exact h3 v hv (by omega)
  · apply wf_trap
    rw [← hA4]
    refine (WC.sk ?_).sk ?_
    · unfold wfp
      rintro (y | y | y | ⟨u, y⟩) <;> omega
    · unfold wfp
      rintro (y | y | y | ⟨u, y⟩) <;> omega
  · have hi2 : rmp i ∧ ¬ (i = 1 ∨ i = 2 ∨ i = 11 ∨ (36 ≤ i ∧ i < 136)) ∧ ¬ i = 146 + 20 * t ∧ ¬ i = 144 + 20 * t ∧ ¬ (12 ≤ i ∧ i < 36) ∧ ¬ i = 138 + 20 * t ∧ ¬ i = 148 + 20 * t := by
      rcases hi with y | y | ⟨u, y⟩
      · exact ⟨Or.inl y, by omega, by omega, by omega, by omega, by omega, by omega⟩
      · exact ⟨Or.inr (Or.inl y), by omega, by omega, by omega, by omega, by omega, by omega⟩
      · exact ⟨Or.inr (Or.inr ⟨u, y.1, by omega⟩), by omega, by omega, by omega, by omega, by omega, by omega⟩
    rw [aTrap_n hi2.2.1, n4 _ hi2.2.2.1 hi2.2.2.2.1, nA _ (by omega) (by omega) hi2.2.2.2.2.2.1 hi2.2.2.2.2.2.2, g11 i hi2.1]
