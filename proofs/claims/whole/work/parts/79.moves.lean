/-! how the row stays as it must be -/
def wfp (i : Nat) : Prop := i = 6 ∨ i = 7 ∨ (12 ≤ i ∧ i < 36) ∨ ∃ t, t < 4 ∧ (i = 136 + 20 * t ∨ i = 137 + 20 * t ∨ i = 138 + 20 * t ∨ i = 141 + 20 * t ∨ i = 142 + 20 * t ∨ i = 148 + 20 * t)
theorem wfp_w {i : Nat} (h : 12 ≤ i ∧ i < 36) : wfp i := Or.inr (Or.inr (Or.inl h))
theorem wfp_t {t i : Nat} (h : t < 4) (h1 : i = 136 + 20 * t ∨ i = 137 + 20 * t ∨ i = 138 + 20 * t ∨ i = 141 + 20 * t ∨ i = 142 + 20 * t ∨ i = 148 + 20 * t) : wfp i := Or.inr (Or.inr (Or.inr ⟨t, h, h1⟩))
theorem WFt.eq {A A1 : Nat → Int32} {W t : Nat} {D RS TP ST : Nat → Nat} (h : WFt A W D RS TP ST t) (hA : ∀ i, (i = 136 + 20 * t ∨ i = 137 + 20 * t ∨ i = 138 + 20 * t ∨ i = 141 + 20 * t ∨ i = 142 + 20 * t ∨ i = 148 + 20 * t) → A1 i = A i) : WFt A1 W D RS TP ST t := by
  obtain ⟨a1, a2, a3, a4, a5, a6, a7, a8, a9, ⟨c, b1, b2⟩, k, b3, b4⟩ := h
  exact ⟨(hA _ (by omega)).trans a1, a2, (hA _ (by omega)).trans a3, a4, (hA _ (by omega)).trans a5, a6, a7, a8, fun z => ⟨(hA _ (by omega)).trans (a9 z).1, (a9 z).2⟩, ⟨c, b1, (hA _ (by omega)).trans b2⟩, k, b3, by rw [hA _ (by omega)]; exact b4⟩
theorem WFw.eq {A A1 : Nat → Int32} {W : Nat} {D RS TP : Nat → Nat} (h : WFw A W D RS TP) (hW : W ≤ 12) (hT : ∀ t, t < 4 → RS t ≤ W ∧ (1 ≤ RS t → TP t < W)) (hA : ∀ i, 12 ≤ i → i < 36 → A1 i = A i) : WFw A1 W D RS TP := by
  refine ⟨fun w hw => ?_, fun t f ht hf => ?_⟩
  · rw [hA _ (by omega) (by omega)]
    exact h.1 w hw
  · have := hT t ht
    have hl := wat_lt (this.2 (by omega)) (show f < W by omega)
    rw [hA _ (by omega) (by omega), hA _ (by omega) (by omega)]
    exact h.2 t f ht hf
theorem WF.lim {A : Nat → Int32} {W t : Nat} {D RS TP ST : Nat → Nat} (h : WF A W D RS TP ST) (ht : t < 4) : RS t ≤ W ∧ (1 ≤ RS t → TP t < W) := ⟨(h.2.1 t ht).2.2.2.2.2.2.1, fun z => ((h.2.1 t ht).2.2.2.2.2.2.2.2.1 z).2⟩
theorem WF.eq {A A1 : Nat → Int32} {W : Nat} {D RS TP ST : Nat → Nat} (h : WF A W D RS TP ST) (hA : ∀ i, wfp i → A1 i = A i) : WF A1 W D RS TP ST := by
  refine ⟨h.1, fun t ht => (h.2.1 t ht).eq (fun i hi => hA i (wfp_t ht hi)), h.2.2.1.eq h.1.2 (fun t ht => h.lim ht) (fun i h1 h2 => hA i (wfp_w ⟨h1, h2⟩)), ?_⟩
  obtain ⟨y, k, b1, b2, b3, b4, b5⟩ := h.2.2.2
  exact ⟨y, k, b1, b2, (hA 6 (Or.inl rfl)).trans b3, (hA 7 (Or.inr (Or.inl rfl))).trans b4, b5⟩
theorem WF.sk {A : Nat → Int32} {W j : Nat} {x : Int32} {D RS TP ST : Nat → Nat} (h : WF A W D RS TP ST) (hj : ¬ wfp j) : WF (upd A j x) W D RS TP ST := h.eq (fun i hi => pk_un (fun z => hj (by rw [← z]; exact hi)))
theorem wf_trap {A : Nat → Int32} {W : Nat} {kd t m o : Int32} {D RS TP ST : Nat → Nat} (h : WF A W D RS TP ST) : WF (aTrap A kd t m o) W D RS TP ST := by
  refine h.eq (fun i hi => ?_)
  unfold wfp at hi
  unfold aTrap
  rcases hi with hi | hi | hi | ⟨t, hi⟩ <;> rw [if_neg (by omega), if_neg (by omega), if_neg (by omega), if_neg (by omega), if_neg (by omega), if_neg (by omega), if_neg (by omega), if_neg (by omega), if_neg (by omega)]
theorem wf_cnt {A : Nat → Int32} {W t c : Nat} {D RS TP ST : Nat → Nat} (h : WF A W D RS TP ST) (ht : t < 4) (hc : c ≤ 3) : WF (upd A (141 + 20 * t) (nI c)) W D RS TP ST := by
  refine ⟨h.1, fun u hu => ?_, h.2.2.1.eq h.1.2 (fun t ht => h.lim ht) (fun i h1 h2 => pk_un (by omega)), ?_⟩
  · by_cases z : u = t
    · subst z
      obtain ⟨a1, a2, a3, a4, a5, a6, a7, a8, a9, -, k, b3, b4⟩ := h.2.1 u hu
      exact ⟨(pk_un (by omega)).trans a1, a2, (pk_un (by omega)).trans a3, a4, (pk_un (by omega)).trans a5, a6, a7, a8, fun z => ⟨(pk_un (by omega)).trans (a9 z).1, (a9 z).2⟩, ⟨c, hc, pk_us⟩, k, b3, by rw [pk_un (by omega)]; exact b4⟩
    · exact (h.2.1 u hu).eq (fun i hi => pk_un (by omega))
  · obtain ⟨y, k, b1, b2, b3, b4, b5⟩ := h.2.2.2
    exact ⟨y, k, b1, b2, (pk_un (by omega)).trans b3, (pk_un (by omega)).trans b4, b5⟩
theorem wf_gss {A : Nat → Int32} {W t g : Nat} {x : Int32} {D RS TP ST : Nat → Nat} (h : WF A W D RS TP ST) (ht : t < 4) (hg : g ≤ 16) (hx : x = nI g ∨ x = -(nI g)) : WF (upd A (142 + 20 * t) x) W D RS TP ST := by
  refine ⟨h.1, fun u hu => ?_, h.2.2.1.eq h.1.2 (fun t ht => h.lim ht) (fun i h1 h2 => pk_un (by omega)), ?_⟩
  · by_cases z : u = t
    · subst z
      obtain ⟨a1, a2, a3, a4, a5, a6, a7, a8, a9, ⟨c, b1, b2⟩, -⟩ := h.2.1 u hu
      exact ⟨(pk_un (by omega)).trans a1, a2, (pk_un (by omega)).trans a3, a4, (pk_un (by omega)).trans a5, a6, a7, a8, fun z => ⟨(pk_un (by omega)).trans (a9 z).1, (a9 z).2⟩, ⟨c, b1, (pk_un (by omega)).trans b2⟩, g, hg, by rw [pk_us]; exact hx⟩
    · exact (h.2.1 u hu).eq (fun i hi => pk_un (by omega))
  · obtain ⟨y, k, b1, b2, b3, b4, b5⟩ := h.2.2.2
    exact ⟨y, k, b1, b2, (pk_un (by omega)).trans b3, (pk_un (by omega)).trans b4, b5⟩
/-- one task has changed -/
theorem wf_mk {A A1 : Nat → Int32} {W t d r p s : Nat} {D RS TP ST : Nat → Nat} (h : WF A W D RS TP ST) (ht : t < 4) (hA : ∀ i, wfp i → ¬ (12 ≤ i ∧ i < 36) → ¬ i = 136 + 20 * t → ¬ i = 137 + 20 * t → ¬ i = 138 + 20 * t → ¬ i = 148 + 20 * t → A1 i = A i) (h1 : A1 (136 + 20 * t) = nI s ∧ s ≤ 3 ∧ A1 (137 + 20 * t) = nI d ∧ d ≤ 60 ∧ A1 (138 + 20 * t) = nI r ∧ r ≤ d ∧ r ≤ W ∧ (s = 1 ↔ 1 ≤ d) ∧ (1 ≤ r → A1 (148 + 20 * t) = nI p ∧ p < W)) (h2 : WFw A1 W (fu D t d) (fu RS t r) (fu TP t p)) : WF A1 W (fu D t d) (fu RS t r) (fu TP t p) (fu ST t s) := by
  refine ⟨h.1, fun u hu => ?_, h2, ?_⟩
  · by_cases z : u = t
    · subst z
      obtain ⟨-, -, -, -, -, -, -, -, -, ⟨c, b1, b2⟩, k, b3, b4⟩ := h.2.1 u hu
      unfold WFt
      rw [fu_s, fu_s, fu_s, fu_s]
      obtain ⟨a1, a2, a3, a4, a5, a6, a7, a8, a9⟩ := h1
      refine ⟨a1, a2, a3, a4, a5, a6, a7, a8, a9, ⟨c, b1, ?_⟩, k, b3, ?_⟩
      · rw [hA _ (wfp_t hu (by omega)) (by omega) (by omega) (by omega) (by omega) (by omega)]
        exact b2
      · rw [hA _ (wfp_t hu (by omega)) (by omega) (by omega) (by omega) (by omega) (by omega)]
        exact b4
    · have q := (h.2.1 u hu).eq (A1 := A1) (fun i hi => hA i (wfp_t hu hi) (by omega) (by omega) (by omega) (by omega) (by omega))
      unfold WFt at q ⊢
      rw [fu_n z, fu_n z, fu_n z, fu_n z]
      exact q
  · obtain ⟨y, k, b1, b2, b3, b4, b5⟩ := h.2.2.2
    exact ⟨y, k, b1, b2, (hA 6 (Or.inl rfl) (by omega) (by omega) (by omega) (by omega) (by omega)).trans b3, (hA 7 (Or.inr (Or.inl rfl)) (by omega) (by omega) (by omega) (by omega) (by omega)).trans b4, b5⟩
/-- a CALL: a window more behind the latest -/
theorem wf_call {A A1 : Nat → Int32} {W t : Nat} {D RS TP ST : Nat → Nat} (h : WF A W D RS TP ST) (ht : t < 4) (hR : 1 ≤ RS t) (h60 : D t < 60) (hf : A (12 + nxw W (TP t)) = -1) (hA : ∀ i, wfp i → ¬ i = 137 + 20 * t → ¬ i = 138 + 20 * t → ¬ i = 148 + 20 * t → ¬ i = 12 + nxw W (TP t) → ¬ i = 24 + nxw W (TP t) → A1 i = A i) (h1 : A1 (137 + 20 * t) = nI (D t + 1)) (h2 : A1 (138 + 20 * t) = nI (RS t + 1)) (h3 : A1 (148 + 20 * t) = nI (nxw W (TP t))) (h4 : A1 (12 + nxw W (TP t)) = nI t) (h5 : A1 (24 + nxw W (TP t)) = nI (D t + 1)) : WF A1 W (fu D t (D t + 1)) (fu RS t (RS t + 1)) (fu TP t (nxw W (TP t))) (fu ST t 1) ∧ RS t + 1 ≤ W := by
  have hW := h.1
  obtain ⟨hRW, hTP⟩ := h.lim ht
  have hTP := hTP hR
  have hx : nxw W (TP t) < W := nxw_lt hW.1
  have hlt : RS t < W := by
    apply Nat.lt_of_le_of_ne hRW
    intro z
    have q := (h.2.2.1.2 t (W - 1) ht (by omega)).1
    rw [wat_last hTP, hf] at q
    exact m1_ne ht q.symm
  obtain ⟨a1, a2, a3, a4, a5, a6, a7, a8, a9, -⟩ := h.2.1 t ht
  have gA : ∀ w, w < W → ¬ w = nxw W (TP t) → A1 (12 + w) = A (12 + w) ∧ A1 (24 + w) = A (24 + w) := fun w hw hne => ⟨hA _ (wfp_w (by omega)) (by omega) (by omega) (by omega) (by omega) (by omega), hA _ (wfp_w (by omega)) (by omega) (by omega) (by omega) (by omega) (by omega)⟩
  have hst : ST t = 1 := a8.mpr (by omega)
  refine ⟨wf_mk h ht (fun i hi n1 n2 n3 n4 n5 => hA i hi n3 n4 n5 (by omega) (by omega)) ⟨?_, by omega, h1, by omega, h2, by omega, by omega, by omega, fun _ => ⟨h3, hx⟩⟩ ⟨fun w hw => ?_, fun u f hu hf1 => ?_⟩, by omega⟩
  · rw [hA _ (wfp_t ht (by omega)) (by omega) (by omega) (by omega) (by omega) (by omega), a1, hst]
  · by_cases c : w = nxw W (TP t)
    · right
      refine ⟨t, 0, ht, by rw [fu_s]; omega, by rw [c]; exact h4, by rw [fu_s, wat_0]; exact c⟩
    · rw [(gA w hw c).1]
      rcases h.2.2.1.1 w hw with g1 | ⟨u, f, g1, g2, g3, g4⟩
      · exact Or.inl g1
      · right
        by_cases z : u = t
        · subst z
          refine ⟨u, f + 1, g1, by rw [fu_s]; omega, g3, ?_⟩
          rw [fu_s, wat_nx hTP (by omega)]
          exact g4
        · refine ⟨u, f, g1, by rw [fu_n z]; exact g2, g3, by rw [fu_n z]; exact g4⟩
  · by_cases z : u = t
    · subst z
      rw [fu_s] at hf1
      rw [fu_s, fu_s]
      cases f with
      | zero =>
        rw [wat_0]
        exact ⟨h4, h5⟩
      | succ g =>
        rw [wat_nx hTP (by omega)]
        have q := h.2.2.1.2 u g ht (by omega)
        have hl := wat_lt hTP (show g < W by omega)
        have hne : ¬ wat W (TP u) g = nxw W (TP u) := by
          intro y
          rw [y, hf] at q
          exact m1_ne ht q.1.symm
        obtain ⟨e1, e2⟩ := gA _ hl hne
        rw [e1, e2, show D u + 1 - (g + 1) = D u - g by omega]
        exact q
    · rw [fu_n z] at hf1
      rw [fu_n z, fu_n z]
      have q := h.2.2.1.2 u f hu hf1
      have hl := wat_lt ((h.lim hu).2 (by omega)) (show f < W by have := (h.lim hu).1; omega)
      have hne : ¬ wat W (TP u) f = nxw W (TP t) := by
        intro y
        rw [y, hf] at q
        exact m1_ne hu q.1.symm
      obtain ⟨e1, e2⟩ := gA _ hl hne
      rw [e1, e2]
      exact q
/-- a RETURN: the latest window is free -/
theorem wf_ret {A A1 : Nat → Int32} {W t : Nat} {D RS TP ST : Nat → Nat} (h : WF A W D RS TP ST) (ht : t < 4) (hR : 1 ≤ RS t) (hA : ∀ i, wfp i → ¬ i = 136 + 20 * t → ¬ i = 137 + 20 * t → ¬ i = 138 + 20 * t → ¬ i = 148 + 20 * t → ¬ i = 12 + TP t → ¬ i = 24 + TP t → A1 i = A i) (h0 : A1 (136 + 20 * t) = nI (if D t = 1 then 2 else 1)) (h1 : A1 (137 + 20 * t) = nI (D t - 1)) (h2 : A1 (138 + 20 * t) = nI (RS t - 1)) (h3 : 2 ≤ RS t → A1 (148 + 20 * t) = nI (wat W (TP t) 1)) (h4 : A1 (12 + TP t) = -1) : WF A1 W (fu D t (D t - 1)) (fu RS t (RS t - 1)) (fu TP t (wat W (TP t) 1)) (fu ST t (if D t = 1 then 2 else 1)) := by
  have hW := h.1
  obtain ⟨hRW, hTP⟩ := h.lim ht
  have hTP := hTP hR
  obtain ⟨a1, a2, a3, a4, a5, a6, a7, a8, a9, -⟩ := h.2.1 t ht
  have gA : ∀ w, w < W → ¬ w = TP t → A1 (12 + w) = A (12 + w) ∧ A1 (24 + w) = A (24 + w) := fun w hw hne => ⟨hA _ (wfp_w (by omega)) (by omega) (by omega) (by omega) (by omega) (by omega) (by omega), hA _ (wfp_w (by omega)) (by omega) (by omega) (by omega) (by omega) (by omega) (by omega)⟩
  have hs : (if D t = 1 then 2 else 1) ≤ 3 ∧ ((if D t = 1 then 2 else 1) = 1 ↔ 1 ≤ D t - 1) := by
    by_cases c : D t = 1
    · rw [if_pos c]
      omega
    · rw [if_neg c]
      omega
  refine wf_mk h ht (fun i hi n1 n2 n3 n4 n5 => hA i hi n2 n3 n4 n5 (by omega) (by omega)) ⟨h0, hs.1, h1, by omega, h2, by omega, by omega, hs.2, fun z => ⟨h3 (by omega), wat_lt hTP (by omega)⟩⟩ ⟨fun w hw => ?_, fun u f hu hf1 => ?_⟩
  · by_cases c : w = TP t
    · left
      rw [c]
      exact h4
    · rw [(gA w hw c).1]
      rcases h.2.2.1.1 w hw with g1 | ⟨u, f, g1, g2, g3, g4⟩
      · exact Or.inl g1
      · right
        by_cases z : u = t
        · subst z
          have hf0 : ¬ f = 0 := fun y => c (by rw [g4, y, wat_0])
          obtain ⟨g, rfl⟩ : ∃ g, f = g + 1 := ⟨f - 1, by omega⟩
          refine ⟨u, g, g1, by rw [fu_s]; omega, g3, ?_⟩
          rw [fu_s, wat_1 hTP (by omega)]
          exact g4
        · exact ⟨u, f, g1, by rw [fu_n z]; exact g2, g3, by rw [fu_n z]; exact g4⟩
  · by_cases z : u = t
    · subst z
      rw [fu_s] at hf1
      rw [fu_s, fu_s, wat_1 hTP (by omega)]
      have q := h.2.2.1.2 u (f + 1) ht (by omega)
      have hl := wat_lt hTP (show f + 1 < W by omega)
      have hne : ¬ wat W (TP u) (f + 1) = TP u := by
        intro y
        have := wat_inj (W := W) (p := TP u) (f := f + 1) (g := 0) (by omega) (by omega) (y.trans wat_0.symm)
        omega
      obtain ⟨e1, e2⟩ := gA _ hl hne
      rw [e1, e2, show D u - 1 - f = D u - (f + 1) by omega]
      exact q
    · rw [fu_n z] at hf1
      rw [fu_n z, fu_n z]
      have q := h.2.2.1.2 u f hu hf1
      have hl := wat_lt ((h.lim hu).2 (by omega)) (show f < W by have := (h.lim hu).1; omega)
      have hne : ¬ wat W (TP u) f = TP t := by
        intro y
        have := h.2.2.1.one hu ht hf1 hR (fun t ht => (h.lim ht).1) (y.trans wat_0.symm)
        exact z this.1
      obtain ⟨e1, e2⟩ := gA _ hl hne
      rw [e1, e2]
      exact q
/-- a task's latest FRAME alone comes into a free window -/
theorem wf_come {A A1 : Nat → Int32} {W t w d : Nat} {D RS TP ST : Nat → Nat} (h : WF A W D RS TP ST) (ht : t < 4) (hR : RS t = 0) (hd : 1 ≤ d ∧ d ≤ 60) (hw : w < W) (hf : A (12 + w) = -1) (hA : ∀ i, wfp i → ¬ i = 136 + 20 * t → ¬ i = 137 + 20 * t → ¬ i = 138 + 20 * t → ¬ i = 148 + 20 * t → ¬ i = 12 + w → ¬ i = 24 + w → A1 i = A i) (h0 : A1 (136 + 20 * t) = nI 1) (h1 : A1 (137 + 20 * t) = nI d) (h2 : A1 (138 + 20 * t) = nI 1) (h3 : A1 (148 + 20 * t) = nI w) (h4 : A1 (12 + w) = nI t) (h5 : A1 (24 + w) = nI d) : WF A1 W (fu D t d) (fu RS t 1) (fu TP t w) (fu ST t 1) := by
  have hW := h.1
  have gA : ∀ x, x < W → ¬ x = w → A1 (12 + x) = A (12 + x) ∧ A1 (24 + x) = A (24 + x) := fun x hx hne => ⟨hA _ (wfp_w (by omega)) (by omega) (by omega) (by omega) (by omega) (by omega) (by omega), hA _ (wfp_w (by omega)) (by omega) (by omega) (by omega) (by omega) (by omega) (by omega)⟩
  refine wf_mk h ht (fun i hi n1 n2 n3 n4 n5 => hA i hi n2 n3 n4 n5 (by omega) (by omega)) ⟨h0, by omega, h1, hd.2, h2, hd.1, by omega, by omega, fun _ => ⟨h3, hw⟩⟩ ⟨fun x hx => ?_, fun u f hu hf1 => ?_⟩
  · by_cases c : x = w
    · right
      exact ⟨t, 0, ht, by rw [fu_s]; omega, by rw [c]; exact h4, by rw [fu_s, wat_0]; exact c⟩
    · rw [(gA x hx c).1]
      rcases h.2.2.1.1 x hx with g1 | ⟨u, f, g1, g2, g3, g4⟩
      · exact Or.inl g1
      · right
        have z : ¬ u = t := by
          intro z
          rw [z, hR] at g2
          omega
        exact ⟨u, f, g1, by rw [fu_n z]; exact g2, g3, by rw [fu_n z]; exact g4⟩
  · by_cases z : u = t
    · subst z
      rw [fu_s] at hf1
      rw [fu_s, fu_s, show f = 0 by omega, wat_0]
      exact ⟨h4, h5⟩
    · rw [fu_n z] at hf1
      rw [fu_n z, fu_n z]
      have q := h.2.2.1.2 u f hu hf1
      have hl := wat_lt ((h.lim hu).2 (by omega)) (show f < W by have := (h.lim hu).1; omega)
      have hne : ¬ wat W (TP u) f = w := by
        intro y
        rw [y, hf] at q
        exact m1_ne hu q.1.symm
      obtain ⟨e1, e2⟩ := gA _ hl hne
      rw [e1, e2]
      exact q
/-- a task fails: all its windows are free -/
theorem wf_fail {A A1 : Nat → Int32} {W t : Nat} {D RS TP ST : Nat → Nat} (h : WF A W D RS TP ST) (ht : t < 4) (hA : ∀ i, wfp i → ¬ (12 ≤ i ∧ i < 36) → ¬ i = 136 + 20 * t → ¬ i = 137 + 20 * t → ¬ i = 138 + 20 * t → A1 i = A i) (h0 : A1 (136 + 20 * t) = nI 3) (h1 : A1 (137 + 20 * t) = nI 0) (h2 : A1 (138 + 20 * t) = nI 0) (h3 : ∀ w, w < W → A (12 + w) = nI t → A1 (12 + w) = -1) (h4 : ∀ w, w < W → ¬ A (12 + w) = nI t → A1 (12 + w) = A (12 + w) ∧ A1 (24 + w) = A (24 + w)) : WF A1 W (fu D t 0) (fu RS t 0) (fu TP t 0) (fu ST t 3) := by
  have hW := h.1
  refine wf_mk h ht (fun i hi n1 n2 n3 n4 n5 => hA i hi n1 n2 n3 n4) ⟨h0, by omega, h1, by omega, h2, by omega, by omega, by omega, fun z => absurd z (by omega)⟩ ⟨fun w hw => ?_, fun u f hu hf1 => ?_⟩
  · by_cases c : A (12 + w) = nI t
    · exact Or.inl (h3 w hw c)
    · rw [(h4 w hw c).1]
      rcases h.2.2.1.1 w hw with g1 | ⟨u, f, g1, g2, g3, g4⟩
      · exact Or.inl g1
      · right
        have z : ¬ u = t := fun z => c (by rw [g3, z])
        exact ⟨u, f, g1, by rw [fu_n z]; exact g2, g3, by rw [fu_n z]; exact g4⟩
  · by_cases z : u = t
    · subst z
      rw [fu_s] at hf1
      omega
    · rw [fu_n z] at hf1
      rw [fu_n z, fu_n z]
      have q := h.2.2.1.2 u f hu hf1
      have hl := wat_lt ((h.lim hu).2 (by omega)) (show f < W by have := (h.lim hu).1; omega)
      obtain ⟨e1, e2⟩ := h4 _ hl (by rw [q.1]; exact tt_ne hu ht z)
      rw [e1, e2]
      exact q
