/-! a ring of the class and the reference's row, with all that lies in them -/
def RX (m sl al r q1 B W n : Nat) (K : aK) (L F : Nat) (H tf : Nat → Nat) (gv : Nat → Nat → Int32) (dT dM : Int32) (e T M : Nat) (σ τ : zS) (A : Nat → Int32) (D RS TP ST : Nat → Nat) (C : Nat → aC) : Prop := (Rly r ∧ (q1 + 7 ≤ r ∨ r + 25 ≤ q1)) ∧ CSt σ r W n ∧ CRel sl al σ r A ∧ COf al σ r A dT dM T M ∧ (∀ v, v < 4 → 1 ≤ RS v → σ.1 (r + 5 + 5 * v) 3 = nI (TP v)) ∧ WK τ B W n ∧ MRel τ A ∧ WF A W D RS TP ST ∧ WFu A W RS TP ∧ σ.1 r 12 = A 10 ∧ PK σ q1 τ B K L F H n tf gv ∧ ((A 3 = -1 ∧ A 4 = 0 ∧ ∀ v, v < n → 2 ≤ ST v) ∨ ∃ t, t < n ∧ A 3 = nI t ∧ ST t ≤ 1) ∧ (∀ v, v < 4 → ∃ mo, mo ≤ 60 ∧ D v ≤ mo ∧ A (140 + 20 * v) = nI mo ∧ (ST v = 0 → mo = 0)) ∧ (∀ v, v < 4 → Sx al σ r ST v) ∧ (∀ v, v < 4 → ST v = 1 → (C v).1 = D v ∧ tyC L H (C v) ∧ ME τ v (C v) ∧ Cm m σ r (r + 6 + 5 * v) K (C v) e) ∧ (∀ v, v < n → ST v = 0 → τ.1 469 (236 + 2801 * v) = 0 ∧ Cb m σ r (r + 6 + 5 * v) K (aBegin K (tf v) (gv v)) e) ∧ (m = 0 → ∀ v, v < 4 → σ.2 (r + 6 + 5 * v) 4 = 1000001) ∧ (m = 0 → al = 0 → ∀ v, v < 4 → ST v = 2 → σ.1 (r + 6 + 5 * v) 3 = A (147 + 20 * v)) ∧ (sl = 1 ∨ ∃ t0, ∀ v, v < n → ¬ v = t0 → 2 ≤ ST v) ∧ (m = 0 → ∀ v, v < 4 → ∃ h, h ≤ 1680 ∧ σ.1 (r + 6 + 5 * v) 2 = nI h)
def cu (C : Nat → aC) (t : Nat) (x : aC) : Nat → aC := fun v => if v = t then x else C v
theorem cu_s {C : Nat → aC} {t : Nat} {x : aC} : cu C t x t = x := if_pos rfl
theorem cu_n {C : Nat → aC} {t v : Nat} {x : aC} (h : ¬ v = t) : cu C t x v = C v := if_neg h
theorem CRel.ev {sl al r : Nat} {σ : zS} {A : Nat → Int32} (h : CRel sl al σ r A) : CRel sl al (zuI σ r 9 (σ.1 r 9 + 1)) r (upd A 0 (A 0 + 1)) := by
  by_cases c : al = 0
  · have l : Lk sl al r r 9 0 := lk_g (by omega)
    rw [h _ _ _ l]
    exact h.up l
  · refine (h.sk (fun i z => ?_)).any (fun a k z => ?_)
    · unfold Lk at z
      rcases z with z | z | z | ⟨u, z⟩ | ⟨u, z⟩ <;> omega
    · unfold Lk at z
      rcases z with z | z | z | ⟨u, z⟩ | ⟨u, z⟩ <;> omega
theorem CRel.te {sl al r : Nat} {x y : Int32} {σ : zS} {A : Nat → Int32} (h : CRel sl al σ r A) (hx : sl = 1 → x = y) : CRel sl al (zuI σ r 8 x) r (upd A 4 y) := by
  by_cases c : sl = 1
  · rw [hx c]
    exact h.up (lk_g (by omega))
  · refine (h.sk (fun i z => ?_)).any (fun a k z => ?_)
    · unfold Lk at z
      rcases z with z | z | z | ⟨u, z⟩ | ⟨u, z⟩ <;> omega
    · unfold Lk at z
      rcases z with z | z | z | ⟨u, z⟩ | ⟨u, z⟩ <;> omega
/-- the class's end of an event, ahead of the turn -/
def epA (r a : Nat) (res : Int32) (σ : zS) : zS := zuI (zuI σ r 12 res) a 5 (if ((zuI σ r 12 res).1 a 5) < ((zuI σ r 12 res).1 (a + 1) 0) then ((zuI σ r 12 res).1 (a + 1) 0) else ((zuI σ r 12 res).1 a 5))
def epB (r a : Nat) (res : Int32) (σ : zS) : zS := zuI (epA r a res σ) a 4 (((epA r a res σ).1 a 4) + 1)
def epC (r a : Nat) (res : Int32) (σ : zS) : zS := zuI (epB r a res σ) r 9 (((epB r a res σ).1 r 9) + 1)
def epD (r a : Nat) (res : Int32) (σ : zS) : zS := zuI (epC r a res σ) r 8 (((epC r a res σ).1 r 8) + 1)
def epM (t : Nat) (τ : zS) : zS := zuI (zuI (zuI τ 469 0 (τ.1 469 0 + 1)) 469 (139 + 20 * t) ((zuI τ 469 0 (τ.1 469 0 + 1)).1 469 (139 + 20 * t) + 1)) 469 4 ((zuI (zuI τ 469 0 (τ.1 469 0 + 1)) 469 (139 + 20 * t) ((zuI τ 469 0 (τ.1 469 0 + 1)).1 469 (139 + 20 * t) + 1)).1 469 4 + 1)
def sEp (r t : Nat) (q j : Nat) : Prop := (q = r ∧ (j = 12 ∨ j = 9 ∨ j = 8 ∨ j = 7)) ∨ (q = r + 5 + 5 * t ∧ (j = 5 ∨ j = 4))
theorem ep_cl {sl al r t W n u : Nat} {σ : zS} {A : Nat → Int32} (ht : t < 4) (hs : CSt σ r W n) (hC : CRel sl al σ r A) : CRel sl al (epD r (r + 5 + 5 * t) (nI u) σ) r (upd (upd (upd (upd (upd A (140 + 20 * t) (mxI (A (140 + 20 * t)) (A (137 + 20 * t)))) 10 (nI u)) 0 (A 0 + 1)) (139 + 20 * t) (A (139 + 20 * t) + 1)) 4 (A 4 + 1)) ∧ CSt (epD r (r + 5 + 5 * t) (nI u) σ) r W n ∧ rfr (sEp r t) σ (epD r (r + 5 + 5 * t) (nI u) σ) ∧ (epD r (r + 5 + 5 * t) (nI u) σ).1 r 12 = nI u := by
  have l5 : Lk sl al r (r + 5 + 5 * t) 5 (140 + 20 * t) := by
    have := lk_t (sl := sl) (al := al) (r := r) (t := t) (k := 5) ht (by omega) (by omega)
    rw [show 135 + 20 * t + 5 = 140 + 20 * t by omega] at this
    exact this
  have l4 : Lk sl al r (r + 5 + 5 * t) 4 (139 + 20 * t) := by
    have := lk_t (sl := sl) (al := al) (r := r) (t := t) (k := 4) ht (by omega) (by omega)
    rw [show 135 + 20 * t + 4 = 139 + 20 * t by omega] at this
    exact this
  have l12 : ∀ i, ¬ Lk sl al r r 12 i := fun i z => by
    unfold Lk at z
    rcases z with z | z | z | ⟨v, z⟩ | ⟨v, z⟩ <;> omega
  have C0 : CRel sl al (zuI σ r 12 (nI u)) r (upd A 10 (nI u)) := (hC.sk l12).any lk_10
  have eA : epA r (r + 5 + 5 * t) (nI u) σ = zuI (zuI σ r 12 (nI u)) (r + 5 + 5 * t) 5 (mxI (A (140 + 20 * t)) (A (137 + 20 * t))) := by
    unfold epA mxI
    rw [gI_n (by omega), gI_n (by omega), hC _ _ _ l5, show r + 5 + 5 * t + 1 = r + 6 + 5 * t by omega, hC _ _ _ (lk_d ht)]
  have C1 : CRel sl al (epA r (r + 5 + 5 * t) (nI u) σ) r (upd (upd A 10 (nI u)) (140 + 20 * t) (mxI (A (140 + 20 * t)) (A (137 + 20 * t)))) := by
    rw [eA]
    exact C0.up l5
  have C2 : CRel sl al (epB r (r + 5 + 5 * t) (nI u) σ) r (upd (upd (upd A 10 (nI u)) (140 + 20 * t) (mxI (A (140 + 20 * t)) (A (137 + 20 * t)))) (139 + 20 * t) (A (139 + 20 * t) + 1)) := by
    unfold epB
    rw [C1 _ _ _ l4, pk_un (by omega), pk_un (by omega)]
    exact C1.up l4
  have C3 := C2.ev
  rw [pk_un (by omega), pk_un (by omega), pk_un (by omega)] at C3
  have C4 : CRel sl al (epD r (r + 5 + 5 * t) (nI u) σ) r (upd (upd (upd (upd (upd A 10 (nI u)) (140 + 20 * t) (mxI (A (140 + 20 * t)) (A (137 + 20 * t)))) (139 + 20 * t) (A (139 + 20 * t) + 1)) 0 (A 0 + 1)) 4 (A 4 + 1)) := by
    refine C3.te (fun z => ?_)
    have := C3 r 8 4 (lk_g (by omega))
    rw [pk_un (by omega), pk_un (by omega), pk_un (by omega), pk_un (by omega)] at this
    show (epC r (r + 5 + 5 * t) (nI u) σ).1 r 8 + 1 = _
    unfold epC
    rw [this]
  have f : rfr (sEp r t) σ (epD r (r + 5 + 5 * t) (nI u) σ) := by
    unfold epD epC epB epA
    exact ((((rfr.rf.uI (show sEp r t r 12 from Or.inl ⟨rfl, by omega⟩)).uI (show sEp r t (r + 5 + 5 * t) 5 from Or.inr ⟨rfl, by omega⟩)).uI (show sEp r t (r + 5 + 5 * t) 4 from Or.inr ⟨rfl, by omega⟩)).uI (show sEp r t r 9 from Or.inl ⟨rfl, by omega⟩)).uI (show sEp r t r 8 from Or.inl ⟨rfl, by omega⟩)
  refine ⟨?_, hs.fr f (fun q j y => by unfold sEp at y; omega), f, ?_⟩
  · rw [upd_c (i := 10) (j := 140 + 20 * t) (by omega), upd_c (i := 139 + 20 * t) (j := 0) (by omega)] at C4
    exact C4
  · unfold epD epC epB epA
    rw [gI_n (by omega), gI_n (by omega), gI_n (by omega), gI_n (by omega), gI_h rfl rfl]
theorem ep_rf {t : Nat} {τ : zS} {A A1 : Nat → Int32} (ht : t < 4) (hM : MRel τ A1) (h0 : A1 0 = A 0) (h1 : A1 (139 + 20 * t) = A (139 + 20 * t)) (h4 : A1 4 = A 4) : MRel (epM t τ) (upd (upd (upd A1 0 (A 0 + 1)) (139 + 20 * t) (A (139 + 20 * t) + 1)) 4 (A 4 + 1)) ∧ rfr sN τ (epM t τ) := by
  unfold epM
  rw [gI_n (by omega), gI_n (by omega), gI_n (by omega), hM _ (by omega), hM _ (by omega), hM _ (by omega), h0, h1, h4]
  exact ⟨hM.up.up.up, ((rfr.rf.uI (show sN 469 0 from ⟨rfl, by omega⟩)).uI (show sN 469 (139 + 20 * t) from ⟨rfl, by omega⟩)).uI (show sN 469 4 from ⟨rfl, by omega⟩)⟩
/-- the turn passes, or not -/
theorem pr_pass {sl al r t W n N B : Nat} {σ τ : zS} {A : Nat → Int32} {D RS TP ST : Nat → Nat} (hl : Rly r) (hN : 500 < N) (hn : n ≤ 4) (ht : t < n) (hs : CSt σ r W n) (hC : CRel sl al σ r A) (hA3 : A 3 = nI t) (hSt : ∀ v, v < 4 → Sx al σ r ST v) (hK : WK τ B W n) (hM : MRel τ A) (h : WF A W D RS TP ST) (hsl : sl = 1 ∨ ∃ t0, ∀ v, v < n → ¬ v = t0 → 2 ≤ ST v) : p_X4_passTurn r N σ ∧ (p_X9_isOver (nI t) τ ∧ p_X9_passOn N τ) ∧ ∃ (x y : Int32), CRel sl al (s_X4_passTurn r N σ) r (upd (upd A 4 y) 3 x) ∧ CSt (s_X4_passTurn r N σ) r W n ∧ rfr (fun q j => q = r ∧ (j = 7 ∨ j = 8)) σ (s_X4_passTurn r N σ) ∧ MRel (if f_X9_isOver (nI t) τ = 0 then (if τ.1 469 4 < τ.1 469 5 then τ else s_X9_passOn N τ) else s_X9_passOn N τ) (upd (upd A 4 y) 3 x) ∧ rfr sN τ (if f_X9_isOver (nI t) τ = 0 then (if τ.1 469 4 < τ.1 469 5 then τ else s_X9_passOn N τ) else s_X9_passOn N τ) ∧ ((x = -1 ∧ y = 0 ∧ ∀ v, v < n → 2 ≤ ST v) ∨ ∃ v, v < n ∧ x = nI v ∧ ST v ≤ 1) := by
  have hA : ∀ v, v < 4 → A (136 + 20 * v) = nI (ST v) ∧ ST v ≤ 3 := fun v hv => ⟨(h.2.1 v hv).1, (h.2.1 v hv).2.1⟩
  have c7 : σ.1 r 7 = nI t := (hC r 7 3 (lk_g (by omega))).trans hA3
  have m3 : τ.1 469 3 = nI t := (hM 3 (by omega)).trans hA3
  have eu : u_X9_passOn_2 N τ = zuI (zuI τ 469 3 (-1)) 469 4 0 := rfl
  have M2 : MRel (zuI (zuI τ 469 3 (-1)) 469 4 0) (upd (upd A 3 (-1)) 4 0) := hM.up.up
  have f2 : rfr sN τ (zuI (zuI τ 469 3 (-1)) 469 4 0) := (rfr.rf.uI (show sN 469 3 from ⟨rfl, by omega⟩)).uI (show sN 469 4 from ⟨rfl, by omega⟩)
  obtain ⟨q1, q2, x, q3, q4, q5, q6⟩ := nx_turn (N := N) hl hn ht hs c7 hSt (hK.fr f2 (fun q j y => sN_W y)) M2 (by rw [pk_un (by omega), pk_us]) (fun v hv => by rw [pk_un (by omega), pk_un (by omega)]; exact hA v hv) n 1 (by omega) (Nat.le_refl _) N N (by omega) (by omega)
  have en : f_X4_nextTurn r N σ = x := q3
  have pn : p_X4_nextTurn r N σ := q1
  have es : s_X9_passOn N τ = l_X9_passOn N N (nI t) (nI 1) (zuI (zuI τ 469 3 (-1)) 469 4 0) := by
    unfold s_X9_passOn
    rw [m3, eu]
    rfl
  have pp : p_X9_passOn N τ := by
    unfold p_X9_passOn
    rw [m3, eu]
    exact q2
  have Mp : MRel (s_X9_passOn N τ) (upd (upd A 4 0) 3 x) := by
    rw [es]
    have e : upd (upd A 4 0) 3 x = upd (upd (upd A 3 (-1)) 4 0) 3 x := by
      rw [upd_c (i := 4) (j := 3) (by omega), upd_c (i := 4) (j := 3) (by omega), upd_two]
    rw [e]
    exact q4
  have Fp : rfr sN τ (s_X9_passOn N τ) := by
    rw [es]
    exact f2.tr q5
  have q6' : (x = -1 ∧ (0 : Int32) = 0 ∧ ∀ v, v < n → 2 ≤ ST v) ∨ ∃ v, v < n ∧ x = nI v ∧ ST v ≤ 1 := by
    rcases q6 with y | y
    · refine Or.inl ⟨y.1, rfl, fun v hv => ?_⟩
      by_cases c : t < v
      · have := y.2 (v - t) (by omega) (by omega)
        rw [show t + (v - t) = v by omega, Nat.mod_eq_of_lt hv] at this
        exact this
      · have := y.2 (v + n - t) (by omega) (by omega)
        rw [show t + (v + n - t) = v + n by omega, Nat.add_mod_right, Nat.mod_eq_of_lt hv] at this
        exact this
    · exact Or.inr y
  have oc := cl_over hs.2.2 (show t < 4 by omega) (hA t (by omega)).2 (hSt t (by omega))
  obtain ⟨om, op⟩ := rf_over hM (show t < 4 by omega) (hA t (by omega)).2 (hA t (by omega)).1
  have Cp : CRel sl al (zuI (zuI σ r 7 x) r 8 0) r (upd (upd A 4 0) 3 x) := by
    have := (hC.up (x := x) (lk_g (show (7 = 2 ∧ 3 = 6) ∨ _ by omega))).te (x := 0) (y := 0) (fun _ => rfl)
    rw [upd_c (i := 3) (j := 4) (by omega)] at this
    exact this
  have Sp : CSt (zuI (zuI σ r 7 x) r 8 0) r W n := (hs.uI (by omega)).uI (by omega)
  have fp : rfr (fun q j => q = r ∧ (j = 7 ∨ j = 8)) σ (zuI (zuI σ r 7 x) r 8 0) := (rfr.rf.uI (x := x) (show (fun q j => q = r ∧ (j = 7 ∨ j = 8)) r 7 from ⟨rfl, Or.inl rfl⟩)).uI (x := 0) (show (fun q j => q = r ∧ (j = 7 ∨ j = 8)) r 8 from ⟨rfl, Or.inr rfl⟩)
  have pc : p_X4_passTurn r N σ := by
    unfold p_X4_passTurn
    rw [c7]
    exact ⟨tk_p hl hs.2.2 (by omega), fun _ => pn, fun _ _ => pn⟩
  unfold s_X4_passTurn u_X4_passTurn_4 u_X4_passTurn_3 u_X4_passTurn_2 u_X4_passTurn_1
  rw [c7, oc, om, en]
  refine ⟨pc, ⟨op, pp⟩, ?_⟩
  have e4 : τ.1 469 4 = A 4 := hM 4 (by omega)
  have e5 : τ.1 469 5 = A 5 := hM 5 (by omega)
  by_cases co : 2 ≤ ST t
  · rw [if_pos co, if_neg (show ¬ (1 : Int32) = 0 by decide), if_neg (show ¬ (1 : Int32) = 0 by decide)]
    exact ⟨x, 0, Cp, Sp, fp, Mp, Fp, q6'⟩
  · rw [if_neg co, if_pos rfl, if_pos rfl, e4, e5]
    have hstay : CRel sl al σ r (upd (upd A 4 (A 4)) 3 (nI t)) := by
      rw [upd_same (show A 4 = A 4 from rfl), upd_same hA3]
      exact hC
    have mstay : MRel τ (upd (upd A 4 (A 4)) 3 (nI t)) := by
      rw [upd_same (show A 4 = A 4 from rfl), upd_same hA3]
      exact hM
    by_cases cs : sl = 1
    · have k6 : σ.1 r 6 = A 5 := hC r 6 5 (lk_g (by omega))
      have k8 : σ.1 r 8 = A 4 := hC r 8 4 (lk_g (by omega))
      rw [k6, k8]
      by_cases cc : A 4 < A 5
      · rw [if_pos cc, if_neg (Int32.not_le.mpr cc)]
        exact ⟨nI t, A 4, hstay, hs, rfr.rf, mstay, rfr.rf, Or.inr ⟨t, ht, rfl, by omega⟩⟩
      · rw [if_neg cc, if_pos (Int32.not_lt.mp cc)]
        exact ⟨x, 0, Cp, Sp, fp, Mp, Fp, q6'⟩
    · -- a task that alone is left comes behind itself
      have hx : x = nI t := by
        rcases hsl with y | ⟨t0, y⟩
        · exact absurd y cs
        · have ht0 : t = t0 := by
            apply Classical.byContradiction
            intro z
            exact co (y t ht z)
          rcases q6 with ⟨z1, z2⟩ | ⟨v, v1, v2, v3⟩
          · have := z2 n (by omega) (Nat.le_refl _)
            rw [Nat.add_mod_right, Nat.mod_eq_of_lt ht] at this
            exact absurd this co
          · have : v = t0 := by
              apply Classical.byContradiction
              intro z
              have := y v v1 z
              omega
            rw [v2, this, ht0]
      have l3 : ∀ y, CRel sl al σ r (upd (upd A 4 y) 3 (nI t)) := fun y => by
        have := (hC.any (i := 4) (x := y) (fun a k z => by
          unfold Lk at z
          rcases z with z | z | z | ⟨u, z⟩ | ⟨u, z⟩ <;> omega))
        rw [upd_same (show upd A 4 y 3 = nI t by rw [pk_un (by omega)]; exact hA3)]
        exact this
      have lp : ∀ y, CRel sl al (zuI (zuI σ r 7 x) r 8 0) r (upd (upd A 4 y) 3 (nI t)) := fun y => by
        have := (hC.up (x := x) (lk_g (show (7 = 2 ∧ 3 = 6) ∨ _ by omega))).te (x := 0) (y := y) (fun z => absurd z cs)
        rw [upd_c (i := 3) (j := 4) (by omega), hx] at this
        rw [hx]
        exact this
      rw [hx] at Mp
      by_cases cc : A 4 < A 5
      · rw [if_pos cc]
        by_cases cd : σ.1 r 6 ≤ σ.1 r 8
        · rw [if_pos cd]
          exact ⟨nI t, A 4, lp _, Sp, fp, mstay, rfr.rf, Or.inr ⟨t, ht, rfl, by omega⟩⟩
        · rw [if_neg cd]
          exact ⟨nI t, A 4, l3 _, hs, rfr.rf, mstay, rfr.rf, Or.inr ⟨t, ht, rfl, by omega⟩⟩
      · rw [if_neg cc]
        by_cases cd : σ.1 r 6 ≤ σ.1 r 8
        · rw [if_pos cd]
          exact ⟨nI t, 0, lp _, Sp, fp, Mp, Fp, Or.inr ⟨t, ht, rfl, by omega⟩⟩
        · rw [if_neg cd]
          exact ⟨nI t, 0, l3 _, hs, rfr.rf, Mp, Fp, Or.inr ⟨t, ht, rfl, by omega⟩⟩
