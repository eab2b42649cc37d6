/-! windows: one behind another; who lies where -/
def wat (W p f : Nat) : Nat := if f ≤ p then p - f else p + W - f
def nxw (W p : Nat) : Nat := if p + 1 < W then p + 1 else 0
theorem wat_lt {W p f : Nat} (hp : p < W) (hf : f < W) : wat W p f < W := by
  unfold wat
  split <;> omega
theorem wat_0 {W p : Nat} : wat W p 0 = p := if_pos (Nat.zero_le _)
theorem wat_inj {W p f g : Nat} (hf : f < W) (hg : g < W) (h : wat W p f = wat W p g) : f = g := by
  unfold wat at h
  split at h <;> split at h <;> omega
theorem nxw_lt {W p : Nat} (h : 2 ≤ W) : nxw W p < W := by
  unfold nxw
  split <;> omega
theorem wat_nx {W p f : Nat} (hp : p < W) (hf : f + 1 < W) : wat W (nxw W p) (f + 1) = wat W p f := by
  unfold wat nxw
  split <;> split <;> split <;> omega
theorem wat_last {W p : Nat} (hp : p < W) : wat W p (W - 1) = nxw W p := by
  unfold wat nxw
  split <;> split <;> omega
theorem wat_1 {W p f : Nat} (hp : p < W) (hf : f + 1 < W) : wat W (wat W p 1) f = wat W p (f + 1) := by
  unfold wat
  split <;> split <;> split <;> omega
def bhd (W x y : Int32) : Int32 := if 0 ≤ ((x + y) - (x + y) / W * W) then ((x + y) - (x + y) / W * W) else (((x + y) - (x + y) / W * W) + W)
theorem bhd_all : ∀ W, W < 13 → 2 ≤ W → ∀ p, p < W → (bhd (nI W) (nI p) 1 = nI (nxw W p)) ∧ ∀ f, f < W → bhd (nI W) (nI p) (-(nI f)) = nI (wat W p f) := by decide +kernel
theorem f9_win {τ : zS} {B W : Nat} (hB : B < 2) (h1 : τ.1 468 16 = nI B) (h2 : τ.1 470 B = nI W) : f_X9_windowsNow τ = nI W ∧ p_X9_windowsNow τ := by
  unfold f_X9_windowsNow p_X9_windowsNow
  rw [h1, nI_clamp (by omega)]
  exact ⟨h2, vp_in_nI hB (by decide)⟩
def WK (τ : zS) (B W n : Nat) : Prop := B < 2 ∧ τ.1 468 16 = nI B ∧ τ.1 470 B = nI W ∧ τ.1 477 B = nI n
theorem WK.fr {S : Nat → Nat → Prop} {τ τ1 : zS} {B W n : Nat} (h : WK τ B W n) (hf : rfr S τ τ1) (hS : ∀ q j, S q j → (q = 468 ∧ ¬ j = 16) ∨ (¬ q = 468 ∧ ¬ q = 470 ∧ ¬ q = 477)) : WK τ1 B W n := ⟨h.1, (hf.2 _ _ (fun z => by have := hS _ _ z; omega)).trans h.2.1, (hf.2 _ _ (fun z => by have := hS _ _ z; omega)).trans h.2.2.1, (hf.2 _ _ (fun z => by have := hS _ _ z; omega)).trans h.2.2.2⟩
theorem sN_W {q j : Nat} (h : sN q j) : (q = 468 ∧ ¬ j = 16) ∨ (¬ q = 468 ∧ ¬ q = 470 ∧ ¬ q = 477) := by
  unfold sN at h
  omega
theorem rf_behind {τ : zS} {B W n p : Nat} (h : WK τ B W n) (hW : 2 ≤ W ∧ W ≤ 12) (hp : p < W) : f_X9_behind (nI p) 1 τ = nI (nxw W p) ∧ p_X9_behind (nI p) 1 τ ∧ ∀ f, f < W → f_X9_behind (nI p) (-(nI f)) τ = nI (wat W p f) ∧ p_X9_behind (nI p) (-(nI f)) τ := by
  obtain ⟨e1, e2⟩ := f9_win h.1 h.2.1 h.2.2.1
  have hn : ¬ nI W = 0 := nI_ne0 (by omega) (by omega)
  obtain ⟨b1, b2⟩ := bhd_all W (by omega) hW.1 p hp
  have pB : ∀ y, p_X9_behind (nI p) y τ := fun y => ⟨e2, by rw [e1]; exact hn, fun _ => e2⟩
  refine ⟨?_, pB _, fun f hf => ⟨?_, pB _⟩⟩
  · unfold f_X9_behind
    rw [e1]
    exact b1
  · unfold f_X9_behind
    rw [e1]
    exact b2 f hf
theorem rf_winOf {τ : zS} {A : Nat → Int32} {B W n t D p f : Nat} (hA : MRel τ A) (h : WK τ B W n) (hW : 2 ≤ W ∧ W ≤ 12) (ht : t < 4) (hp : p < W) (hf : f < W) (hfD : f ≤ D) (hD : D ≤ 60) (hT : A (148 + 20 * t) = nI p) (hF : A (137 + 20 * t) = nI D) : f_X9_windowOf (nI t) (nI (D - f)) τ = nI (wat W p f) ∧ p_X9_windowOf (nI t) (nI (D - f)) τ := by
  have eF : f_X9_frames (nI t) τ = nI D := by
    unfold f_X9_frames
    rw [at_1, nI_clamp (by omega), show 136 + 20 * t + 1 = 137 + 20 * t by omega, hA _ (by omega), hF]
  have eT : τ.1 469 (f_X9_atTask (nI t) 12).toNatClampNeg = nI p := by
    rw [at_12, nI_clamp (by omega), show 136 + 20 * t + 12 = 148 + 20 * t by omega, hA _ (by omega), hT]
  have ed : nI (D - f) - nI D = -(nI f) := by
    rw [← Int32.neg_sub, pk_sub (by omega), show D - (D - f) = f by omega]
  obtain ⟨-, -, b⟩ := rf_behind h hW hp
  unfold f_X9_windowOf p_X9_windowOf
  rw [eT, eF, ed]
  refine ⟨(b f hf).1, ?_, ?_, (b f hf).2⟩
  · rw [at_12]
    exact vp_in_nI (by omega) (by decide)
  · unfold p_X9_frames
    rw [at_1]
    exact vp_in_nI (by omega) (by decide)
theorem cl_behind {σ : zS} {r W n p : Nat} (h : CSt σ r W n) (hW : 2 ≤ W ∧ W ≤ 12) (hp : p < W) : f_X4_behind r (nI p) σ = nI (nxw W p) := by
  unfold f_X4_behind nxw
  rw [h.1, nI_1]
  by_cases c : p + 1 < W
  · rw [if_pos c, if_neg (nI_ge c (by omega))]
  · rw [if_neg c, if_pos (nI_le (by omega) (by omega))]
    rfl
theorem cl_ahead {σ : zS} {r W n p : Nat} (h : CSt σ r W n) (hW : 2 ≤ W ∧ W ≤ 12) (hp : p < W) : f_X4_ahead r (nI p) σ = nI (wat W p 1) := by
  unfold f_X4_ahead wat
  rw [h.1]
  by_cases c : 1 ≤ p
  · rw [if_pos c, if_neg (nI_nle (by omega) (by omega)), nI_s1 c]
  · rw [if_neg c, if_pos (show nI p ≤ 0 from nI_le (b := 0) (by omega) (by decide)), nI_s1 (by omega)]
    congr 1
    omega
theorem cl_winOf {sl al r W n t D R p f : Nat} {σ : zS} {A : Nat → Int32} (hs : CSt σ r W n) (h : CRel sl al σ r A) (ht : t < 4) (hW : 2 ≤ W ∧ W ≤ 12) (hp : p < W) (hf : f < R) (hfD : f ≤ D) (hR : R ≤ W) (hD : D ≤ 60) (hT : σ.1 (r + 5 + 5 * t) 3 = nI p) (hF : A (137 + 20 * t) = nI D) (hRs : A (138 + 20 * t) = nI R) : f_X4_windowOf r (nI t) (nI (D - f)) σ = nI (wat W p f) := by
  unfold f_X4_windowOf
  rw [tk_eq hs.2.2 ht, hT, show r + 5 + 5 * t + 1 = r + 6 + 5 * t by omega, h _ _ _ (lk_d ht), h _ _ _ (lk_r ht), hF, hRs, hs.1, pk_sub (by omega), show D - (D - f) = f by omega, if_neg (nI_pos (by omega)), if_pos (nI_lt hf (by omega))]
  unfold wat
  by_cases c : f ≤ p
  · rw [if_pos c, pk_sub c, if_neg (nI_pos (by omega))]
  · rw [if_neg c, if_pos (pk_sneg (by omega) (by omega)), show nI p - nI f = -(nI (f - p)) by rw [← Int32.neg_sub, pk_sub (by omega)], Int32.add_comm, Int32.add_neg_eq_sub, pk_sub (by omega)]
    congr 1
    omega
def fu (f : Nat → Nat) (t x : Nat) : Nat → Nat := fun s => if s = t then x else f s
theorem fu_s {f : Nat → Nat} {t x : Nat} : fu f t x t = x := if_pos rfl
theorem fu_n {f : Nat → Nat} {t x s : Nat} (h : ¬ s = t) : fu f t x s = f s := if_neg h
/-- the row is as it must be -/
def WFt (A : Nat → Int32) (W : Nat) (D RS TP ST : Nat → Nat) (t : Nat) : Prop := A (136 + 20 * t) = nI (ST t) ∧ ST t ≤ 3 ∧ A (137 + 20 * t) = nI (D t) ∧ D t ≤ 60 ∧ A (138 + 20 * t) = nI (RS t) ∧ RS t ≤ D t ∧ RS t ≤ W ∧ (ST t = 1 ↔ 1 ≤ D t) ∧ (1 ≤ RS t → A (148 + 20 * t) = nI (TP t) ∧ TP t < W) ∧ (∃ c, c ≤ 3 ∧ A (141 + 20 * t) = nI c) ∧ ∃ g, g ≤ 16 ∧ (A (142 + 20 * t) = nI g ∨ A (142 + 20 * t) = -(nI g))
def WFw (A : Nat → Int32) (W : Nat) (D RS TP : Nat → Nat) : Prop := (∀ w, w < W → A (12 + w) = -1 ∨ ∃ t f, t < 4 ∧ f < RS t ∧ A (12 + w) = nI t ∧ w = wat W (TP t) f) ∧ ∀ t f, t < 4 → f < RS t → A (12 + wat W (TP t) f) = nI t ∧ A (24 + wat W (TP t) f) = nI (D t - f)
def WFh (A : Nat → Int32) : Prop := ∃ y k, y ≤ 3 ∧ k ≤ 16 ∧ A 6 = nI y ∧ A 7 = nI k ∧ (y = 1 → 1 ≤ k ∧ k ≤ 8) ∧ (y = 3 → 1 ≤ k)
def WF (A : Nat → Int32) (W : Nat) (D RS TP ST : Nat → Nat) : Prop := (2 ≤ W ∧ W ≤ 12) ∧ (∀ t, t < 4 → WFt A W D RS TP ST t) ∧ WFw A W D RS TP ∧ WFh A
theorem m1_ne {t : Nat} (h : t < 4) : ¬ nI t = -1 := by
  rcases (show t = 0 ∨ t = 1 ∨ t = 2 ∨ t = 3 by omega) with rfl | rfl | rfl | rfl <;> decide
theorem tt_ne {t u : Nat} (h : t < 4) (h1 : u < 4) (h2 : ¬ t = u) : ¬ nI t = nI u := fun z => h2 ((nI_eq (by omega) (by omega)).mp z)
/-- who owns two windows alike -/
theorem WFw.one {A : Nat → Int32} {W : Nat} {D RS TP : Nat → Nat} (h : WFw A W D RS TP) {t u f g : Nat} (ht : t < 4) (hu : u < 4) (hf : f < RS t) (hg : g < RS u) (hW : ∀ t, t < 4 → RS t ≤ W) (e : wat W (TP t) f = wat W (TP u) g) : t = u ∧ f = g := by
  have q1 := (h.2 t f ht hf).1
  have q2 := (h.2 u g hu hg).1
  rw [e, q2] at q1
  have et : t = u := ((nI_eq (by omega) (by omega)).mp q1).symm
  subst et
  have := hW t ht
  exact ⟨rfl, wat_inj (by omega) (by omega) e⟩
/-- the eldest FRAME of a task goes out -/
theorem wf_spill {A : Nat → Int32} {W u : Nat} {D RS TP ST : Nat → Nat} (h : WF A W D RS TP ST) (hu : u < 4) (h1 : 1 ≤ RS u) : WF (aOut A u (wat W (TP u) (RS u - 1))) W D (fu RS u (RS u - 1)) TP ST := by
  obtain ⟨hW, ht, hw, hh⟩ := h
  have hRW : ∀ t, t < 4 → RS t ≤ W := fun t h => (ht t h).2.2.2.2.2.2.1
  have hTP : ∀ t, t < 4 → 1 ≤ RS t → TP t < W := fun t h h2 => ((ht t h).2.2.2.2.2.2.2.2.1 h2).2
  have hw0 : wat W (TP u) (RS u - 1) < W := wat_lt (hTP u hu h1) (by have := hRW u hu; omega)
  generalize hx : wat W (TP u) (RS u - 1) = x at hw0
  have g : ∀ i, ¬ i = 12 + x → ¬ i = 24 + x → ¬ i = 138 + 20 * u → aOut A u x i = A i := fun i h2 h3 h4 => by
    unfold aOut
    rw [pk_un h4, pk_un h3, pk_un h2]
  have gx : aOut A u x (12 + x) = -1 := by
    unfold aOut
    rw [pk_un (by omega), pk_un (by omega), pk_us]
  refine ⟨hW, fun t h => ?_, ⟨fun w hw1 => ?_, fun t f h hf => ?_⟩, ?_⟩
  · obtain ⟨a1, a2, a3, a4, a5, a6, a7, a8, a9, ⟨c, b1, b2⟩, k, b3, b4⟩ := ht t h
    refine ⟨(g _ (by omega) (by omega) (by omega)).trans a1, a2, (g _ (by omega) (by omega) (by omega)).trans a3, a4, ?_, ?_, ?_, a8, ?_, ⟨c, b1, (g _ (by omega) (by omega) (by omega)).trans b2⟩, k, b3, by rw [g _ (by omega) (by omega) (by omega)]; exact b4⟩
    · by_cases c : t = u
      · subst c
        rw [fu_s]
        unfold aOut
        rw [pk_us, a5, nI_s1 h1]
      · rw [fu_n c, g _ (by omega) (by omega) (by omega)]
        exact a5
    · by_cases c : t = u
      · subst c
        rw [fu_s]
        omega
      · rw [fu_n c]
        exact a6
    · by_cases c : t = u
      · subst c
        rw [fu_s]
        omega
      · rw [fu_n c]
        exact a7
    · intro z
      rw [g _ (by omega) (by omega) (by omega)]
      apply a9
      by_cases c : t = u
      · subst c
        omega
      · rw [fu_n c] at z
        exact z
  · by_cases c : w = x
    · left
      rw [c]
      exact gx
    · rcases hw.1 w hw1 with h2 | ⟨t, f, h2, h3, h4, h5⟩
      · left
        rw [g _ (by omega) (by omega) (by omega)]
        exact h2
      · right
        refine ⟨t, f, h2, ?_, by rw [g _ (by omega) (by omega) (by omega)]; exact h4, h5⟩
        by_cases c1 : t = u
        · subst c1
          rw [fu_s]
          have : ¬ f = RS t - 1 := fun z => c (by rw [h5, z, hx])
          omega
        · rw [fu_n c1]
          exact h3
  · have hf1 : f < RS t := by
      by_cases c1 : t = u
      · subst c1
        rw [fu_s] at hf
        omega
      · rw [fu_n c1] at hf
        exact hf
    have hne : ¬ wat W (TP t) f = x := by
      intro z
      have q := hw.one h hu hf1 (show RS u - 1 < RS u by omega) hRW (z.trans hx.symm)
      obtain ⟨rfl, q2⟩ := q
      rw [fu_s] at hf
      omega
    have hl := wat_lt (hTP t h (by omega)) (show f < W by have := hRW t h; omega)
    rw [g _ (by omega) (by omega) (by omega), g _ (by omega) (by omega) (by omega)]
    exact hw.2 t f h hf1
  · obtain ⟨y, k, b1, b2, b3, b4, b5⟩ := hh
    exact ⟨y, k, b1, b2, (g _ (by omega) (by omega) (by omega)).trans b3, (g _ (by omega) (by omega) (by omega)).trans b4, b5⟩
/-- a FRAME more at the eldest end, in a free window -/
theorem wf_more {A : Nat → Int32} {W t : Nat} {D RS TP ST : Nat → Nat} (h : WF A W D RS TP ST) (ht : t < 4) (hT : A (148 + 20 * t) = nI (TP t) ∧ TP t < W) (hm : RS t < D t) (hf : A (12 + wat W (TP t) (RS t)) = -1) : RS t < W ∧ WF (aIn A t (nI (D t - RS t)) (wat W (TP t) (RS t))) W D (fu RS t (RS t + 1)) TP ST := by
  obtain ⟨hW, hts, hw, hh⟩ := h
  have hRW : ∀ t, t < 4 → RS t ≤ W := fun t h => (hts t h).2.2.2.2.2.2.1
  have hTP : ∀ t, t < 4 → 1 ≤ RS t → TP t < W := fun t h h2 => ((hts t h).2.2.2.2.2.2.2.2.1 h2).2
  have hlt : RS t < W := by
    apply Nat.lt_of_le_of_ne (hRW t ht)
    intro z
    have q := (hw.2 t 0 ht (by omega)).1
    rw [wat_0] at q
    have e : wat W (TP t) (RS t) = TP t := by
      unfold wat
      rw [z, if_neg (by omega)]
      omega
    rw [e, q] at hf
    exact m1_ne ht hf
  refine ⟨hlt, ?_⟩
  have hw0 : wat W (TP t) (RS t) < W := wat_lt hT.2 hlt
  generalize hx : wat W (TP t) (RS t) = x at hw0 hf
  have g : ∀ i, ¬ i = 12 + x → ¬ i = 24 + x → ¬ i = 138 + 20 * t → aIn A t (nI (D t - RS t)) x i = A i := fun i h2 h3 h4 => by
    unfold aIn
    rw [pk_un h4, pk_un h3, pk_un h2]
  have gx : aIn A t (nI (D t - RS t)) x (12 + x) = nI t := by
    unfold aIn
    rw [pk_un (by omega), pk_un (by omega), pk_us]
  have gy : aIn A t (nI (D t - RS t)) x (24 + x) = nI (D t - RS t) := by
    unfold aIn
    rw [pk_un (by omega), pk_us]
  refine ⟨hW, fun u h => ?_, ⟨fun w hw1 => ?_, fun u f h hf1 => ?_⟩, ?_⟩
  · obtain ⟨a1, a2, a3, a4, a5, a6, a7, a8, a9, ⟨c, b1, b2⟩, k, b3, b4⟩ := hts u h
    refine ⟨(g _ (by omega) (by omega) (by omega)).trans a1, a2, (g _ (by omega) (by omega) (by omega)).trans a3, a4, ?_, ?_, ?_, a8, ?_, ⟨c, b1, (g _ (by omega) (by omega) (by omega)).trans b2⟩, k, b3, by rw [g _ (by omega) (by omega) (by omega)]; exact b4⟩
    · by_cases c : u = t
      · subst c
        rw [fu_s]
        unfold aIn
        rw [pk_us, a5, nI_1]
      · rw [fu_n c, g _ (by omega) (by omega) (by omega)]
        exact a5
    · by_cases c : u = t
      · subst c
        rw [fu_s]
        omega
      · rw [fu_n c]
        exact a6
    · by_cases c : u = t
      · subst c
        rw [fu_s]
        omega
      · rw [fu_n c]
        exact a7
    · intro z
      rw [g _ (by omega) (by omega) (by omega)]
      by_cases c : u = t
      · subst c
        exact hT
      · rw [fu_n c] at z
        exact a9 z
  · by_cases c : w = x
    · right
      refine ⟨t, RS t, ht, by rw [fu_s]; omega, by rw [c]; exact gx, by rw [c, hx]⟩
    · rcases hw.1 w hw1 with h2 | ⟨u, f, h2, h3, h4, h5⟩
      · left
        rw [g _ (by omega) (by omega) (by omega)]
        exact h2
      · right
        refine ⟨u, f, h2, ?_, by rw [g _ (by omega) (by omega) (by omega)]; exact h4, h5⟩
        by_cases c1 : u = t
        · subst c1
          rw [fu_s]
          omega
        · rw [fu_n c1]
          exact h3
  · by_cases c : u = t ∧ f = RS t
    · obtain ⟨rfl, rfl⟩ := c
      rw [hx]
      exact ⟨gx, gy⟩
    · have hf2 : f < RS u := by
        by_cases c1 : u = t
        · subst c1
          rw [fu_s] at hf1
          omega
        · rw [fu_n c1] at hf1
          exact hf1
      have q := hw.2 u f h hf2
      have hl := wat_lt (hTP u h (by omega)) (show f < W by have := hRW u h; omega)
      have hne : ¬ wat W (TP u) f = x := by
        intro z
        rw [z, hf] at q
        exact m1_ne h q.1.symm
      rw [g _ (by omega) (by omega) (by omega), g _ (by omega) (by omega) (by omega)]
      exact q
  · obtain ⟨y, k, b1, b2, b3, b4, b5⟩ := hh
    exact ⟨y, k, b1, b2, (g _ (by omega) (by omega) (by omega)).trans b3, (g _ (by omega) (by omega) (by omega)).trans b4, b5⟩
