/-! an event: what both sides hold behind it -/
def PK (σ : zS) (q1 : Nat) (τ : zS) (B : Nat) (K : aK) (L F : Nat) (H : Nat → Nat) (n : Nat) (tf : Nat → Nat) (gv : Nat → Nat → Int32) : Prop := wfK K L F H ∧ CK σ q1 K L F ∧ MK τ B K L F ∧ n ≤ 4 ∧ ∀ t, t < n → tf t < F ∧ σ.1 (q1 + 3) t = nI (tf t) ∧ τ.1 482 (4 * B + t) = nI (tf t) ∧ ∀ i, i < 4 → σ.1 (q1 + 4) (t * 4 + i) = gv t i ∧ τ.1 483 (4 * (4 * B + t) + i) = gv t i
def sXc (r t : Nat) (q j : Nat) : Prop := sX r q j ∨ (q = r + 5 + 5 * t ∧ j = 1) ∨ (r + 6 + 5 * t ≤ q ∧ q < r + 10 + 5 * t)
def sYm (t : Nat) (q j : Nat) : Prop := sN q j ∨ q = 492 ∨ (q = 468 ∧ (j = 41 ∨ j = 42)) ∨ (q = 469 ∧ 236 + 2801 * t ≤ j ∧ j < 3037 + 2801 * t)
def mxI (a b : Int32) : Int32 := if a < b then b else a
def EvR (bT bM m sl al r t W n : Nat) (K : aK) (L : Nat) (H : Nat → Nat) (dT dM : Int32) (e T M : Nat) (σ τ : zS) (A : Nat → Int32) (D RS TP ST : Nat → Nat) (nc : aC) (res : Int32) (σ1 τ1 : zS) : Prop := ∃ (A1 : Nat → Int32) (D1 RS1 TP1 ST1 : Nat → Nat) (T1 M1 u : Nat), (res = nI u ∧ u < W) ∧ CRel sl al σ1 r A1 ∧ CSt σ1 r W n ∧ COf al σ1 r A1 dT dM T1 M1 ∧ (∀ v, v < 4 → 1 ≤ RS1 v → σ1.1 (r + 5 + 5 * v) 3 = nI (TP1 v)) ∧ MRel τ1 (upd (upd A1 (140 + 20 * t) (mxI (A1 (140 + 20 * t)) (A1 (137 + 20 * t)))) 10 (nI u)) ∧ WF A1 W D1 RS1 TP1 ST1 ∧ (A1 (12 + u) = -1 ∨ (1 ≤ RS1 t ∧ TP1 t = u)) ∧ (T ≤ T1 ∧ T1 ≤ T + bT) ∧ (M ≤ M1 ∧ M1 ≤ M + bM) ∧ (∀ q j, ¬ sXc r t q j → σ1.1 q j = σ.1 q j) ∧ (∀ q j, ¬ (q = r + 6 + 5 * t ∧ j = 4) → σ1.2 q j = σ.2 q j) ∧ rfr (sYm t) τ τ1 ∧ σ1.1 (r + 5 + 5 * t) 1 = nI (ST1 t) ∧ (∀ v, ¬ v = t → D1 v = D v ∧ ST1 v = ST v) ∧ ((ST1 t = 1 ∧ nc.1 = D1 t ∧ tyC L H nc ∧ ME τ1 t nc ∧ Cm m σ1 r (r + 6 + 5 * t) K nc (e + 1)) ∨ (2 ≤ ST1 t ∧ (ST1 t = 2 → m = 0 → σ1.1 (r + 6 + 5 * t) 3 = A1 (147 + 20 * t)) ∧ (m = 0 → σ1.2 (r + 6 + 5 * t) 4 = 1000001) ∧ (m = 0 → ∃ h, h ≤ 1680 ∧ σ1.1 (r + 6 + 5 * t) 2 = nI h) ∧ ((nc.1 = 0 ∧ ST1 t = 2) ∨ (nc.1 = 61 ∧ ST1 t = 3)))) ∧ (∀ i, (i = 0 ∨ (3 ≤ i ∧ i ≤ 10) ∨ ∃ v, v < 4 ∧ (i = 139 + 20 * v ∨ i = 140 + 20 * v ∨ (¬ v = t ∧ i = 147 + 20 * v))) → A1 i = A i) ∧ RS1 t ≤ W
theorem PK.cl {S : Nat → Nat → Prop} {σ σ1 τ : zS} {q1 B L F n : Nat} {K : aK} {H tf : Nat → Nat} {gv : Nat → Nat → Int32} (h : PK σ q1 τ B K L F H n tf gv) (hf : rfr S σ σ1) (hS : ∀ q j, S q j → q < q1 ∨ q1 + 7 ≤ q) : PK σ1 q1 τ B K L F H n tf gv := by
  obtain ⟨h1, h2, h3, h4, h5⟩ := h
  refine ⟨h1, h2.fr hf hS, h3, h4, fun t ht => ?_⟩
  obtain ⟨a, b, c, d⟩ := h5 t ht
  refine ⟨a, (hf.2 _ _ (fun z => by have := hS _ _ z; omega)).trans b, c, fun i hi => ⟨(hf.2 _ _ (fun z => by have := hS _ _ z; omega)).trans (d i hi).1, (d i hi).2⟩⟩
theorem PK.rf {S : Nat → Nat → Prop} {σ τ τ1 : zS} {q1 B L F n : Nat} {K : aK} {H tf : Nat → Nat} {gv : Nat → Nat → Int32} (h : PK σ q1 τ B K L F H n tf gv) (hf : rfr S τ τ1) (hS : ∀ q j, S q j → (q = 468 ∧ ¬ j = 16) ∨ (¬ q = 468 ∧ ¬ q = 480 ∧ ¬ q = 481 ∧ ¬ q = 482 ∧ ¬ q = 483 ∧ ¬ q = 484)) : PK σ q1 τ1 B K L F H n tf gv := by
  obtain ⟨h1, h2, h3, h4, h5⟩ := h
  refine ⟨h1, h2, h3.fr hf (fun q j z => by have := hS _ _ z; omega), h4, fun t ht => ?_⟩
  obtain ⟨a, b, c, d⟩ := h5 t ht
  refine ⟨a, b, (hf.2 _ _ (fun z => by have := hS _ _ z; omega)).trans c, fun i hi => ⟨(d i hi).1, (hf.2 _ _ (fun z => by have := hS _ _ z; omega)).trans (d i hi).2⟩⟩
theorem rf_give {t B N : Nat} {g : Nat → Int32} (ht : t < 4) (hB : B < 2) : ∀ (m k : Nat) (τ : zS), k + m = 4 → τ.1 468 16 = nI B → (∀ i, i < 4 → τ.1 483 (4 * (4 * B + t) + i) = g i) → ∀ z, m < z → q_X9_giveTask N z (nI t) (nI k) τ ∧ (∀ i, k ≤ i → i < 4 → (l_X9_giveTask N z (nI t) (nI k) τ).1 492 i = g i) ∧ rfr (fun q j => q = 492 ∧ k ≤ j) τ (l_X9_giveTask N z (nI t) (nI k) τ) := by
  intro m
  induction m with
  | zero =>
    intro k τ hk _ _ z hz
    obtain ⟨z, rfl⟩ : ∃ y, z = y + 1 := ⟨z - 1, by omega⟩
    have c : (4 : Int32) ≤ nI k := nI_le (a := 4) (by omega) (by omega)
    rw [q_X9_giveTask, l_X9_giveTask, if_pos c]
    exact ⟨fun y => absurd c y, fun i h1 h2 => absurd h1 (by omega), rfr.rf⟩
  | succ m ih =>
    intro k τ hk b1 b2 z hz
    obtain ⟨z, rfl⟩ : ∃ y, z = y + 1 := ⟨z - 1, by omega⟩
    have c : ¬ (4 : Int32) ≤ nI k := nI_ge (b := 4) (by omega) (by decide)
    have ei : (4 * ((4 * (τ.1 468 16)) + nI t)) + nI k = nI (4 * (4 * B + t) + k) := by rw [b1, (show (4 : Int32) = nI 4 from rfl), pk_mul, nI_add, pk_mul, nI_add]
    have eu : u_X9_giveTask_h0_1 N (nI t) (nI k) τ = zuI τ 492 k (g k) := by
      unfold u_X9_giveTask_h0_1
      rw [ei, nI_clamp (by omega), nI_clamp (by omega), b2 k (by omega)]
    rw [q_X9_giveTask, l_X9_giveTask, if_neg c, eu, ei, nI_1]
    obtain ⟨r1, r2, r3⟩ := ih (k + 1) (zuI τ 492 k (g k)) (by omega) (by rw [gI_n (by omega)]; exact b1) (fun i hi => by rw [gI_n (by omega)]; exact b2 i hi) z (by omega)
    refine ⟨fun _ => ⟨vp_in_nI (by omega) (by decide), vp_in_nI (by omega) (by decide), r1⟩, fun i h1 h2 => ?_, (rfr.rf.uI (show (492 = 492 ∧ k ≤ k) from ⟨rfl, Nat.le_refl _⟩)).tr (r3.wk (fun q j y => ⟨y.1, by omega⟩))⟩
    by_cases y : i = k
    · rw [y, r3.2 _ _ (by omega), gI_h rfl rfl]
    · exact r2 i (by omega) h2
theorem ME.fr {S : Nat → Nat → Prop} {τ τ1 : zS} {t : Nat} {c : aC} (h : ME τ t c) (h60 : c.1 ≤ 60) (hh : c.2.2.2.2 ≤ 2440) (hf : rfr S τ τ1) (hS : ∀ j, S 469 j → j < 236 + 2801 * t ∨ 3037 + 2801 * t ≤ j) : ME τ1 t c := by
  have g : ∀ j, 236 + 2801 * t ≤ j → j < 3037 + 2801 * t → τ1.1 469 j = τ.1 469 j := fun j h1 h2 => hf.2 _ _ (fun z => by have := hS _ z; omega)
  refine ⟨fun k k1 k2 => ?_, ?_, fun j hj => ?_, fun k i k1 k2 hi => ?_⟩
  · rw [g _ (by omega) (by omega)]; exact h.1 k k1 k2
  · rw [g _ (by omega) (by omega)]; exact h.2.1
  · rw [g _ (by omega) (by omega)]; exact h.2.2.1 j hj
  · rw [g _ (by omega) (by omega)]; exact h.2.2.2 k i k1 k2 hi
def bg2 (o q1 : Nat) (x2 x : Int32) (N : Nat) (σ : zS) : zS := s_X0_begin ((f_X4_taskAt o x2 σ) + 1) q1 (f_X8_at 4 (q1 + 3) x2 (s_X4_makeRoom o x2 x N σ)) 16 (q1 + 4) (x2 * 4) N (s_X4_makeRoom o x2 x N σ)
def bg4 (o q1 : Nat) (x2 x : Int32) (N : Nat) (σ : zS) : zS := zuI (zuI (bg2 o q1 x2 x N σ) (f_X4_taskAt o x2 σ) 1 1) (f_X4_taskAt o x2 σ) 3 x
theorem bg_eq {o q1 N : Nat} {x2 x : Int32} {σ : zS} (hx : (if (σ.1 o 12) = (-1) then 0 else f_X4_behind o (σ.1 o 12) σ) = x) : r_X4_beginTask o q1 x2 N σ = (x, s_X4_moveIn o x2 1 x (bg4 o q1 x2 x N σ)) ∧ ((p_X4_taskAt o x2 σ ∧ (p_X4_makeRoom o x2 x N σ ∧ (p_X8_at 4 (q1 + 3) x2 (s_X4_makeRoom o x2 x N σ) ∧ (p_X0_begin ((f_X4_taskAt o x2 σ) + 1) q1 (f_X8_at 4 (q1 + 3) x2 (s_X4_makeRoom o x2 x N σ)) 16 (q1 + 4) (x2 * 4) N (s_X4_makeRoom o x2 x N σ) ∧ p_X4_moveIn o x2 1 x (bg4 o q1 x2 x N σ))))) → p_X4_beginTask o q1 x2 N σ) := by
  subst hx
  unfold r_X4_beginTask p_X4_beginTask
  by_cases c : σ.1 o 12 = -1
  · rw [if_pos c, if_pos c]
    exact ⟨rfl, fun h => ⟨h.1, fun y => absurd c y, fun _ => h.2⟩⟩
  · rw [if_neg c, if_neg c]
    exact ⟨rfl, fun h => ⟨h.1, fun _ => h.2, fun y => absurd y c⟩⟩
theorem ev_begin {m sl al r q1 t W n N B T M L F e : Nat} {σ τ : zS} {A : Nat → Int32} {D RS TP ST H tf : Nat → Nat} {gv : Nat → Nat → Int32} {K : aK} {dT dM : Int32} (hl : Rly r) (hq1 : q1 + 7 ≤ r ∨ r + 25 ≤ q1) (hN : 500 < N) (hs : CSt σ r W n) (hC : CRel sl al σ r A) (hO : COf al σ r A dT dM T M) (hT : T < 2 ^ 28) (h3 : ∀ t, t < 4 → 1 ≤ RS t → σ.1 (r + 5 + 5 * t) 3 = nI (TP t)) (hK : WK τ B W n) (hM : MRel τ A) (h : WF A W D RS TP ST) (hu : WFu A W RS TP) (hU : σ.1 r 12 = A 10) (hP : PK σ q1 τ B K L F H n tf gv) (ht : t < n) (hST : ST t = 0) (hmo : A (140 + 20 * t) = 0) (hli : τ.1 469 (236 + 2801 * t) = 0) (hCb : Cb m σ r (r + 6 + 5 * t) K (aBegin K (tf t) (gv t)) e) : p_X4_beginTask r q1 (nI t) N σ ∧ p_X9_doBegin (nI t) N τ ∧ EvR 2 24 m sl al r t W n K L H dT dM e T M σ τ A D RS TP ST (aBegin K (tf t) (gv t)) (r_X4_beginTask r q1 (nI t) N σ).1 (r_X4_beginTask r q1 (nI t) N σ).2 (s_X9_doBegin (nI t) N τ) := by
  have hW := h.1
  have hn4 := hP.2.2.2.1
  have ht4 : t < 4 := by omega
  obtain ⟨w1, -, wD, -, wR, wRD, -, wS, -⟩ := h.2.1 t ht4
  have hD : D t = 0 := by
    apply Classical.byContradiction
    intro y
    have := wS.mpr (by omega)
    omega
  have hR : RS t = 0 := by omega
  obtain ⟨w, hw, e1, e2, e3, e4⟩ := wanted_ok hs hC hK hM h hu hU
  obtain ⟨k1, k2⟩ := bg_eq (o := r) (q1 := q1) (N := N) (x2 := nI t) e1
  have hE : A (12 + w) = -1 ∨ ∃ u, u < 4 ∧ 1 ≤ RS u ∧ A (12 + w) = nI u ∧ w = wat W (TP u) (RS u - 1) ∧ (u = t → (0 : Nat) = 1 ∧ 2 ≤ RS t) := by
    rcases e4 with y | ⟨u, y1, y2, y3, y4⟩
    · exact Or.inl y
    · exact Or.inr ⟨u, y1, y2, y3, y4, fun z => by rw [z, hR] at y2; omega⟩
  obtain ⟨p1, p2, A1, RS1, T1, M1, g1, g2, g3, g4, g5, g6, g7, g8, g9, g10, g11, g12, -⟩ := pr_room (cl := 0) hl hN hs hC hO (by omega) h3 hK hM h ht4 hw (by omega) hE
  have p2 : p_X9_makeRoom (nI t) (nI w) 0 N τ := p2
  have g5 : MRel (s_X9_makeRoom (nI t) (nI w) 0 N τ) A1 := g5
  have g6 : rfr sN τ (s_X9_makeRoom (nI t) (nI w) 0 N τ) := g6
  have tk := tk_eq hs.2.2 ht4
  unfold bg4 bg2 at k1 k2
  rw [tk] at k1 k2
  rw [k1]
  unfold s_X9_doBegin u_X9_doBegin_7 u_X9_doBegin_6 u_X9_doBegin_5 u_X9_doBegin_4 u_X9_doBegin_3 u_X9_doBegin_2 u_X9_doBegin_1 p_X9_doBegin u_X9_doBegin_5 u_X9_doBegin_4 u_X9_doBegin_3 u_X9_doBegin_2 u_X9_doBegin_1
  rw [e2]
  generalize s_X4_makeRoom r (nI t) (nI w) N σ = σ0 at g1 g2 g3 g4 k2
  generalize s_X9_makeRoom (nI t) (nI w) 0 N τ = τ0 at g5 g6
  have rq : ∀ q j, sRm r q j → r ≤ q ∧ q < r + 25 := fun q j y => by
    unfold sRm at y
    rcases y with y | y | y | y | ⟨u, y⟩ <;> omega
  have P0 : PK σ0 q1 τ0 B K L F H n tf gv := (hP.cl g4 (fun q j y => by have := rq q j y; omega)).rf g6 (fun q j y => by unfold sN at y; omega)
  obtain ⟨f1, f2, f3, f4⟩ := P0.2.2.2.2 t ht
  have hw6 := P0.1
  have hF6 := hw6.2.1
  have eT : f_X8_at 4 (q1 + 3) (nI t) σ0 = nI (tf t) := by rw [at_i ht4 (by decide), f2]
  have e4x : nI t * 4 = nI (t * 4) := pk_mul t 4
  rw [eT, e4x] at k2
  rw [eT, e4x]
  have Cb0 : Cb m σ0 r (r + 5 + 5 * t + 1) K (aBegin K (tf t) (gv t)) e := by
    rw [show r + 5 + 5 * t + 1 = r + 6 + 5 * t by omega]
    exact hCb.fr g4 (fun q j y => ⟨rq q j y, by
      unfold sRm at y
      rcases y with y | y | y | y | ⟨u, y⟩ <;> omega⟩)
  obtain ⟨c1, c2, c3⟩ := co_begin (N := N) (fr := t * 4) (n3 := 16) (q3 := q1 + 4) (r := r) (a := r + 5 + 5 * t + 1) hw6 ⟨by omega, by omega⟩ (by omega) (by omega) (by omega) (by decide) (by omega) P0.2.1 f1 (fun i hi => (f4 i (by have := (hw6.2.2.1 _ f1).2.2; omega)).1) Cb0
  rw [show r + 5 + 5 * t + 1 = r + 6 + 5 * t by omega] at c1 c2 c3 k2
  rw [show r + 5 + 5 * t + 1 = r + 6 + 5 * t by omega]
  generalize s_X0_begin (r + 6 + 5 * t) q1 (nI (tf t)) 16 (q1 + 4) (nI (t * 4)) N σ0 = σ1 at c2 c3 k2
  have hR1 : RS1 t = 0 := by have := g12 t; omega
  obtain ⟨v1, -, vD, -, vR, -, -, -, -⟩ := g7.2.1 t ht4
  rw [hR1] at vR
  -- the class
  have sA_no : ∀ q j, sA (r + 6 + 5 * t) q j → ¬ (q = r + 6 + 5 * t ∧ j = 0) → ∀ i, ¬ Lk sl al r q j i := fun q j y y2 i z => by
    unfold sA at y
    unfold Lk at z
    rcases z with z | z | z | ⟨u, z⟩ | ⟨u, z⟩ <;> omega
  have C1 : CRel sl al σ1 r (upd A1 (137 + 20 * t) (nI 1)) := by
    intro b j i hk
    by_cases y : b = r + 6 + 5 * t ∧ j = 0
    · have ei : i = 137 + 20 * t := by
        have := hk.inj (lk_d (sl := sl) (al := al) (r := r) ht4)
        exact this.mp y
      rw [y.1, y.2, ei, pk_us]
      exact c2.dep
    · have ei : ¬ i = 137 + 20 * t := fun z => y ((hk.inj (lk_d (sl := sl) (al := al) (r := r) ht4)).mpr z)
      rw [pk_un ei, c3.2 b j (fun z => sA_no b j z y i hk)]
      exact g1 b j i hk
  have S1 : CSt σ1 r W n := g2.fr c3 (fun q j y => by unfold sA at y; omega)
  have lno : ∀ k i, (k = 1 ∨ k = 3) → ¬ Lk sl al r (r + 5 + 5 * t) k i := fun k i hk y => by
    unfold Lk at y
    rcases y with y | y | y | ⟨u, y⟩ | ⟨u, y⟩ <;> omega
  have C2 : CRel sl al (zuI (zuI σ1 (r + 5 + 5 * t) 1 1) (r + 5 + 5 * t) 3 (nI w)) r (upd (upd (upd A1 (137 + 20 * t) (nI 1)) (136 + 20 * t) 1) (148 + 20 * t) (nI w)) := (((C1.sk (fun i => lno 1 i (by omega))).sk (fun i => lno 3 i (by omega))).any (lk_no (by
    right; right; right; right; right
    exact ⟨t, ht4, by omega⟩))).any (lk_no (by
    right; right; right; right; right
    exact ⟨t, ht4, by omega⟩))
  have S2 : CSt (zuI (zuI σ1 (r + 5 + 5 * t) 1 1) (r + 5 + 5 * t) 3 (nI w)) r W n := (S1.uI (by omega)).uI (by omega)
  obtain ⟨o1, o2, o3, o4⟩ := cl_in (f := nI 1) (w := w) hl S2 C2 ht4 (by omega)
  have o1 : p_X4_moveIn r (nI t) 1 (nI w) (zuI (zuI σ1 (r + 5 + 5 * t) 1 1) (r + 5 + 5 * t) 3 (nI w)) := o1
  have o2 : CRel sl al (s_X4_moveIn r (nI t) 1 (nI w) (zuI (zuI σ1 (r + 5 + 5 * t) 1 1) (r + 5 + 5 * t) 3 (nI w))) r (aIn (upd (upd (upd A1 (137 + 20 * t) (nI 1)) (136 + 20 * t) 1) (148 + 20 * t) (nI w)) t (nI 1) w) := o2
  have o3 : CSt (s_X4_moveIn r (nI t) 1 (nI w) (zuI (zuI σ1 (r + 5 + 5 * t) 1 1) (r + 5 + 5 * t) 3 (nI w))) r W n := o3
  have o4 : rfr (sW r t) (zuI (zuI σ1 (r + 5 + 5 * t) 1 1) (r + 5 + 5 * t) 3 (nI w)) (s_X4_moveIn r (nI t) 1 (nI w) (zuI (zuI σ1 (r + 5 + 5 * t) 1 1) (r + 5 + 5 * t) 3 (nI w))) := o4
  generalize s_X4_moveIn r (nI t) 1 (nI w) (zuI (zuI σ1 (r + 5 + 5 * t) 1 1) (r + 5 + 5 * t) 3 (nI w)) = σ4 at o2 o3 o4
  -- the reference
  obtain ⟨y1, y2, y3⟩ := rf_give (N := N) (g := gv t) ht4 hK.1 4 0 τ0 rfl ((g6.2 _ _ (fun z => by unfold sN at z; omega)).trans hK.2.1) (fun i hi => (f4 i hi).2) N (by omega)
  have y1 : p_X9_giveTask (nI t) N τ0 := y1
  have y2 : ∀ i, 0 ≤ i → i < 4 → (s_X9_giveTask (nI t) N τ0).1 492 i = gv t i := y2
  have y3 : rfr (fun q j => q = 492 ∧ 0 ≤ j) τ0 (s_X9_giveTask (nI t) N τ0) := y3
  generalize s_X9_giveTask (nI t) N τ0 = τ1 at y2 y3
  have P1 : PK σ0 q1 τ1 B K L F H n tf gv := P0.rf y3 (fun q j z => by omega)
  have M1' : MRel τ1 A1 := g5.fr y3 (fun q j z => by omega)
  obtain ⟨-, -, f31, -⟩ := P1.2.2.2.2 t ht
  have B1 : τ1.1 468 16 = nI B := P1.2.2.1.2.1
  have efn : f_X9_functionOf (nI t) τ1 = nI (tf t) ∧ p_X9_functionOf (nI t) τ1 := by
    unfold f_X9_functionOf p_X9_functionOf
    have hB := hK.1
    rw [B1, show (4 * nI B) + nI t = nI (4 * B + t) by rw [(show (4 : Int32) = nI 4 from rfl), pk_mul, nI_add], nI_clamp (by omega)]
    exact ⟨f31, vp_in_nI (by omega) (by decide)⟩
  rw [efn.1]
  have hF1 : τ1.1 469 (136 + 20 * t + 1) = 0 := by
    rw [show 136 + 20 * t + 1 = 137 + 20 * t by omega, M1' _ (by omega), vD, hD]
    rfl
  have hl1 : τ1.1 469 (236 + 2801 * t) = 0 := by
    rw [y3.2 _ _ (by omega), g6.2 _ _ (fun z => by unfold sN at z; omega)]
    exact hli
  obtain ⟨z1, z2, z3, z4⟩ := ref_begin_C (N := N) (t := t) hw6 (by omega) (by omega) P1.2.2.1 f1 hF1 hl1 (fun i hi => y2 i (Nat.zero_le _) (by have := (hw6.2.2.1 _ f1).2.2; omega))
  generalize s_X9_enter (nI t) (nI (tf t)) N τ1 = τ2 at z2 z3 z4
  have M2 : MRel τ2 (upd A1 (137 + 20 * t) (nI 1)) := by
    intro i hi
    by_cases y : i = 137 + 20 * t
    · rw [y, pk_us, show 137 + 20 * t = 136 + 20 * t + 1 by omega]
      exact z2
    · rw [pk_un y, z4.2 _ _ (fun z => by unfold sE at z; omega)]
      exact M1' i hi
  have i0 : (f_X9_atTask (nI t) 0).toNatClampNeg = 136 + 20 * t := by rw [at_0, nI_clamp (by omega)]; omega
  have i4 : (f_X9_atTask (nI t) 4).toNatClampNeg = 140 + 20 * t := by rw [at_4, nI_clamp (by omega)]; omega
  rw [i0, i4]
  have M3 : MRel (zuI (zuI τ2 469 (136 + 20 * t) 1) 469 (140 + 20 * t) 1) (upd (upd (upd A1 (137 + 20 * t) (nI 1)) (136 + 20 * t) 1) (140 + 20 * t) 1) := M2.up.up
  obtain ⟨x1, x2, x3⟩ := rf_come M3 ht4 (show w < 12 by omega)
  rw [pk_un (by omega), pk_un (by omega), pk_us] at x2
  generalize s_X9_come (nI t) (nI w) (zuI (zuI τ2 469 (136 + 20 * t) 1) 469 (140 + 20 * t) 1) = τ3 at x2 x3
  generalize hA4 : aIn (upd (upd (upd A1 (137 + 20 * t) (nI 1)) (136 + 20 * t) 1) (148 + 20 * t) (nI w)) t (nI 1) w = A4 at o2
  have nA : ∀ i, ¬ i = 12 + w → ¬ i = 24 + w → ¬ i = 136 + 20 * t → ¬ i = 137 + 20 * t → ¬ i = 138 + 20 * t → ¬ i = 148 + 20 * t → A4 i = A1 i := fun i n1 n2 n3 n4 n5 n6 => by
    rw [← hA4]
    unfold aIn
    rw [pk_un n5, pk_un n2, pk_un n1, pk_un n6, pk_un n3, pk_un n4]
  have a137 : A4 (137 + 20 * t) = nI 1 := by
    rw [← hA4]
    unfold aIn
    rw [pk_un (by omega), pk_un (by omega), pk_un (by omega), pk_un (by omega), pk_un (by omega), pk_us]
  have a140 : A4 (140 + 20 * t) = 0 := by
    rw [nA _ (by omega) (by omega) (by omega) (by omega) (by omega) (by omega), g11 _ (Or.inr (Or.inr ⟨t, ht4, by omega⟩))]
    exact hmo
  have WC : WF A4 W (fu D t 1) (fu RS1 t 1) (fu TP t w) (fu ST t 1) := by
    refine wf_come (d := 1) g7 ht4 hR1 ⟨by omega, by omega⟩ hw g8 (fun i _ n1 n2 n3 n4 n5 n6 => nA i n5 n6 n1 n2 n3 n4) ?_ a137 ?_ ?_ ?_ ?_
    · rw [← hA4]
      unfold aIn
      rw [pk_un (by omega), pk_un (by omega), pk_un (by omega), pk_un (by omega), pk_us]
      rfl
    · rw [← hA4]
      unfold aIn
      rw [pk_us, pk_un (by omega), pk_un (by omega), pk_un (by omega), vR]
      rfl
    · rw [← hA4]
      unfold aIn
      rw [pk_un (by omega), pk_un (by omega), pk_un (by omega), pk_us]
    · rw [← hA4]
      unfold aIn
      rw [pk_un (by omega), pk_un (by omega), pk_us]
    · rw [← hA4]
      unfold aIn
      rw [pk_un (by omega), pk_us]
  have emx : mxI (A4 (140 + 20 * t)) (A4 (137 + 20 * t)) = 1 := by rw [a140, a137]; rfl
  have M5 : MRel (zuI τ3 469 10 (nI w)) (upd (upd A4 (140 + 20 * t) 1) 10 (nI w)) := by
    have e : upd (upd (upd (upd (upd (upd (upd A1 (137 + 20 * t) (nI 1)) (136 + 20 * t) 1) (140 + 20 * t) 1) (148 + 20 * t) (nI w)) (138 + 20 * t) 1) (12 + w) (nI t)) (24 + w) (nI 1) = upd A4 (140 + 20 * t) 1 := by
      rw [← hA4]
      unfold aIn
      rw [pk_un (by omega), pk_un (by omega), pk_un (by omega), vR, upd_c (i := 140 + 20 * t) (j := 148 + 20 * t) (by omega), upd_c (i := 140 + 20 * t) (j := 138 + 20 * t) (by omega), upd_c (i := 138 + 20 * t) (j := 140 + 20 * t) (by omega), upd_c (i := 140 + 20 * t) (j := 138 + 20 * t) (by omega), upd_c (i := 140 + 20 * t) (j := 12 + w) (by omega), upd_c (i := 140 + 20 * t) (j := 24 + w) (by omega), upd_c (i := 138 + 20 * t) (j := 12 + w) (by omega), upd_c (i := 138 + 20 * t) (j := 24 + w) (by omega)]
      rfl
    rw [← e]
    exact x2.up
  have hcls : ∀ q j, ¬ sXc r t q j → σ4.1 q j = σ.1 q j := fun q j hq => by
    have q1' : ¬ sX r q j ∧ ¬ (q = r + 5 + 5 * t ∧ j = 1) ∧ ¬ (r + 6 + 5 * t ≤ q ∧ q < r + 10 + 5 * t) := ⟨fun y => hq (Or.inl y), fun y => hq (Or.inr (Or.inl y)), fun y => hq (Or.inr (Or.inr y))⟩
    have q2' : ¬ sRm r q j := fun y => q1'.1 (Or.inl y)
    have q3' : ¬ (q = r + 5 + 5 * t ∧ j = 3) := fun y => q1'.1 (Or.inr ⟨t, ht4, y.1, by omega⟩)
    have q4' : ¬ sW r t q j := fun y => q2' (by
      unfold sW at y
      rcases y with y | y
      · unfold sRm
        omega
      · exact Or.inr (Or.inr (Or.inr (Or.inr ⟨t, ht4, y.1, by omega⟩))))
    rw [o4.2 q j q4', gI_n q3', gI_n q1'.2.1, c3.2 q j (fun y => by unfold sA at y; omega), g4.2 q j q2']
  refine ⟨k2 ⟨tk_p hl hs.2.2 ht4, p1, at_p (by decide), c1, o1⟩, ⟨e3, p2, y1, efn.2, z1, ?_, ?_, x1⟩, A4, fu D t 1, fu RS1 t 1, fu TP t w, fu ST t 1, T1, M1, w, ⟨rfl, hw⟩, o2, o3, ?_, fun v hv hv1 => ?_, ?_, WC, Or.inr ⟨by rw [fu_s]; omega, fu_s⟩, by omega, by omega, hcls, fun q j _ => ?_, ?_, ?_, fun v hv => ⟨fu_n hv, fu_n hv⟩, Or.inl ⟨fu_s, fu_s.symm, ty_begin hw6 f1, ?_, ?_⟩, fun i hi => ?_, by rw [fu_s]; omega⟩
  · rw [at_0]
    exact vp_in_nI (by omega) (by decide)
  · rw [at_4]
    exact vp_in_nI (by omega) (by decide)
  · refine g3.eq ?_ ?_ (fun j => ?_) (fun i hi => nA i (by omega) (by omega) (by omega) (by omega) (by omega) (by omega))
    · rw [o4.2 _ _ (fun z => by unfold sW at z; omega), gI_n (by omega), gI_n (by omega), c3.2 _ _ (fun z => by unfold sA at z; omega)]
    · rw [o4.2 _ _ (fun z => by unfold sW at z; omega), gI_n (by omega), gI_n (by omega), c3.2 _ _ (fun z => by unfold sA at z; omega)]
    · rw [o4.2 _ _ (fun z => by unfold sW at z; omega), gI_n (by omega), gI_n (by omega), c3.2 _ _ (fun z => by unfold sA at z; omega)]
  · show σ4.1 (r + 5 + 5 * v) 3 = _
    rw [o4.2 _ _ (fun z => by unfold sW at z; omega)]
    by_cases c : v = t
    · subst c
      rw [gI_h rfl rfl, fu_s]
    · rw [fu_n c] at hv1
      have := g12 v
      rw [gI_n (by omega), gI_n (by omega), fu_n c, c3.2 _ _ (fun z => by unfold sA at z; omega), g4.2 _ _ (fun z => by
        unfold sRm at z
        rcases z with z | z | z | z | ⟨u, z⟩ <;> omega)]
      exact h3 v hv (by omega)
  · rw [emx]
    exact M5
  · show σ4.2 q j = σ.2 q j
    rw [o4.1]
    show σ1.2 q j = σ.2 q j
    rw [c3.1, g4.1]
  · refine ((((g6.wk (fun q j y => Or.inl y)).tr (y3.wk (fun q j y => Or.inr (Or.inl y.1)))).tr (z4.wk (fun q j y => ?_))).tr (((rfr.rf.uI (show sYm t _ _ from Or.inl ⟨rfl, by omega⟩)).uI (show sYm t _ _ from Or.inl ⟨rfl, by omega⟩)).tr (x3.wk (fun q j y => Or.inl y)))).uI (show sYm t _ _ from Or.inl ⟨rfl, by omega⟩)
    unfold sE at y
    rcases y with ⟨y1, y2 | y2⟩
    · exact Or.inl ⟨y1, by omega⟩
    · exact Or.inr (Or.inr (Or.inr ⟨y1, by omega, by omega⟩))
  · show σ4.1 (r + 5 + 5 * t) 1 = _
    rw [o4.2 _ _ (fun z => by unfold sW at z; omega), gI_n (by omega), gI_h rfl rfl, fu_s]
    rfl
  · have fz : rfr sN τ2 (zuI τ3 469 10 (nI w)) := ((((rfr.rf.uI (show sN _ _ from ⟨rfl, by omega⟩)).uI (show sN _ _ from ⟨rfl, by omega⟩)).tr x3).uI (show sN _ _ from ⟨rfl, by omega⟩))
    exact z3.fr (show 1 ≤ 60 by decide) (show 0 ≤ 2440 by decide) fz (fun j y => by unfold sN at y; omega)
  · have f5 : rfr (fun q j => sW r t q j ∨ (q = r + 5 + 5 * t ∧ (j = 1 ∨ j = 3))) σ1 σ4 := ((rfr.rf.uI (x := 1) (show (fun q j => sW r t q j ∨ (q = r + 5 + 5 * t ∧ (j = 1 ∨ j = 3))) (r + 5 + 5 * t) 1 from Or.inr ⟨rfl, Or.inl rfl⟩)).uI (x := nI w) (show (fun q j => sW r t q j ∨ (q = r + 5 + 5 * t ∧ (j = 1 ∨ j = 3))) (r + 5 + 5 * t) 3 from Or.inr ⟨rfl, Or.inr rfl⟩)).tr (o4.wk (fun q j y => Or.inl y))
    exact (c2.fr f5 (fun q j y => by unfold sW at y; omega)).up
  · have hi2 : rmp i ∧ ¬ i = 136 + 20 * t ∧ ¬ i = 137 + 20 * t ∧ ¬ i = 138 + 20 * t ∧ ¬ i = 148 + 20 * t ∧ ¬ (12 ≤ i ∧ i < 36) := by
      rcases hi with y | y | ⟨u, y⟩
      · exact ⟨Or.inl y, by omega, by omega, by omega, by omega, by omega⟩
      · exact ⟨Or.inr (Or.inl y), by omega, by omega, by omega, by omega, by omega⟩
      · exact ⟨Or.inr (Or.inr ⟨u, y.1, by omega⟩), by omega, by omega, by omega, by omega, by omega⟩
    rw [nA i (by omega) (by omega) hi2.2.1 hi2.2.2.1 hi2.2.2.2.1 hi2.2.2.2.2.1, g11 i hi2.1]
