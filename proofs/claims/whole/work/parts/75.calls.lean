/-! a whole course: its frames (places and values), its stack -/
abbrev aC : Type := Nat × (Nat → Nat) × (Nat → Nat → Int32) × (Nat → Int32) × Nat
def aTop (c : aC) : aR := (c.2.1 c.1, c.2.2.2.1, c.2.2.2.2)
def aNext (K : aK) (c : aC) : aR := aGo K (c.2.2.1 c.1) 400 (aTop c)
def aMid (c : aC) (s : aR) : aC := (c.1, fun k => if k = c.1 then s.1 else c.2.1 k, c.2.2.1, s.2.1, s.2.2)
def aLeave (c : aC) (s : aR) : aC := (c.1 - 1, c.2.1, c.2.2.1, s.2.1, if c.1 = 1 then s.2.2 - 1 else s.2.2)
def aEnter (K : aK) (c : aC) (s : aR) (f : Nat) : aC := (c.1 + 1, fun k => if k = c.1 + 1 then K.2.2.1 f else if k = c.1 then s.1 + 1 else c.2.1 k, fun k i => if k = c.1 + 1 then (if i < K.2.2.2 f then s.2.1 (s.2.2 - K.2.2.2 f + i) else 0) else c.2.2.1 k i, s.2.1, s.2.2 - K.2.2.2 f)
def aBegin (K : aK) (f : Nat) (g : Nat → Int32) : aC := (1, fun _ => K.2.2.1 f, fun _ i => if i < K.2.2.2 f then g i else 0, fun _ => 0, 0)
def sb (H : Nat → Nat) (pc : Nat → Nat) : Nat → Nat
  | 0 => 0
  | k + 1 => sb H pc k + (H (pc (k + 1)) - 1)
theorem sb_eq {H pc pc1 : Nat → Nat} : ∀ n : Nat, (∀ k, 1 ≤ k → k ≤ n → pc1 k = pc k) → sb H pc1 n = sb H pc n
  | 0, _ => rfl
  | n + 1, h => by rw [sb, sb, sb_eq n (fun k h1 h2 => h k h1 (by omega)), h (n + 1) (by omega) (by omega)]
theorem sb_le {H pc : Nat → Nat} : ∀ n : Nat, (∀ k, 1 ≤ k → k ≤ n → H (pc k) ≤ 28) → sb H pc n ≤ 27 * n
  | 0, _ => Nat.le_refl _
  | n + 1, h => by
    have h1 := sb_le n (fun k h1 h2 => h k h1 (by omega))
    have h2 := h (n + 1) (by omega) (by omega)
    rw [sb]
    omega
def tyC (L : Nat) (H : Nat → Nat) (c : aC) : Prop := (1 ≤ c.1 ∧ c.1 ≤ 60) ∧ (∀ k, 1 ≤ k → k ≤ c.1 → c.2.1 k < L) ∧ (∀ k, 1 ≤ k → k < c.1 → 1 ≤ H (c.2.1 k)) ∧ c.2.2.2.2 = sb H c.2.1 (c.1 - 1) + H (c.2.1 c.1)
theorem ty_top {K : aK} {L F : Nat} {H : Nat → Nat} {c : aC} (hw : wfK K L F H) (h : tyC L H c) : sb H c.2.1 (c.1 - 1) ≤ 1600 ∧ tyR L H (sb H c.2.1 (c.1 - 1)) (aTop c) ∧ tyR L H (sb H c.2.1 (c.1 - 1)) (aNext K c) ∧ (K.1 (aNext K c).1 = 8 ∨ K.1 (aNext K c).1 = 13) := by
  obtain ⟨h1, h2, h3, h4⟩ := h
  have hb : sb H c.2.1 (c.1 - 1) ≤ 1600 := by
    have := sb_le (H := H) (pc := c.2.1) (c.1 - 1) (fun k k1 k2 => (hw.2.2.2 _ (h2 k k1 (by omega))).1)
    omega
  have ht : tyR L H (sb H c.2.1 (c.1 - 1)) (aTop c) := ⟨h2 c.1 h1.1 (Nat.le_refl _), h4⟩
  exact ⟨hb, ht, go_ty hw hb 400 _ ht (by have := hw.1; omega)⟩
theorem ty_leave {K : aK} {L F : Nat} {H : Nat → Nat} {c : aC} (hw : wfK K L F H) (h : tyC L H c) (h13 : K.1 (aNext K c).1 = 13) (h2 : 2 ≤ c.1) : tyC L H (aLeave c (aNext K c)) := by
  obtain ⟨-, -, q1, -⟩ := ty_top hw h
  obtain ⟨g1, g2, g3, g4⟩ := h
  have gI := (hw.2.2.2 _ q1.1).2
  unfold wfI at gI
  rw [h13] at gI
  have gI : H (aNext K c).1 = 1 := gI
  refine ⟨⟨show 1 ≤ c.1 - 1 by omega, show c.1 - 1 ≤ 60 by omega⟩, fun k k1 k2 => g2 k k1 (by have : k ≤ c.1 - 1 := k2; omega), fun k k1 k2 => g3 k k1 (by have : k < c.1 - 1 := k2; omega), ?_⟩
  show (if c.1 = 1 then (aNext K c).2.2 - 1 else (aNext K c).2.2) = sb H c.2.1 (c.1 - 1 - 1) + H (c.2.1 (c.1 - 1))
  rw [if_neg (by omega), q1.2, gI]
  have e : sb H c.2.1 (c.1 - 1) = sb H c.2.1 (c.1 - 1 - 1) + (H (c.2.1 (c.1 - 1)) - 1) := by
    obtain ⟨m, hm⟩ : ∃ m, c.1 - 1 = m + 1 := ⟨c.1 - 2, by omega⟩
    rw [hm]
    rfl
  have := g3 (c.1 - 1) (by omega) (by omega)
  omega
theorem ty_enter {K : aK} {L F f : Nat} {H : Nat → Nat} {c : aC} (hw : wfK K L F H) (h : tyC L H c) (h8 : K.1 (aNext K c).1 = 8) (hf : f < F) (hx : K.2.1 (aNext K c).1 = nI f) (h60 : c.1 < 60) : tyC L H (aEnter K c (aNext K c) f) ∧ K.2.2.2 f ≤ (aNext K c).2.2 := by
  obtain ⟨-, -, q1, -⟩ := ty_top hw h
  obtain ⟨g1, g2, g3, g4⟩ := h
  have gI := (hw.2.2.2 _ q1.1).2
  unfold wfI at gI
  rw [h8] at gI
  obtain ⟨i1, f', f1, f2, f3, f4⟩ := gI
  have hF := hw.2.1
  have ef : f' = f := (nI_eq (by omega) (by omega)).mp (f2.symm.trans hx)
  subst ef
  have hE := hw.2.2.1 f' hf
  generalize aNext K c = s at q1 i1 f2 f3 f4
  refine ⟨⟨⟨show 1 ≤ c.1 + 1 by omega, show c.1 + 1 ≤ 60 by omega⟩, fun k k1 k2 => ?_, fun k k1 k2 => ?_, ?_⟩, by rw [q1.2]; omega⟩
  · have k2 : k ≤ c.1 + 1 := k2
    show (if k = c.1 + 1 then K.2.2.1 f' else if k = c.1 then s.1 + 1 else c.2.1 k) < L
    by_cases c1 : k = c.1 + 1
    · rw [if_pos c1]
      exact hE.1
    · rw [if_neg c1]
      by_cases c2 : k = c.1
      · rw [if_pos c2]
        exact i1
      · rw [if_neg c2]
        exact g2 k k1 (by omega)
  · have k2 : k < c.1 + 1 := k2
    show 1 ≤ H (if k = c.1 + 1 then K.2.2.1 f' else if k = c.1 then s.1 + 1 else c.2.1 k)
    rw [if_neg (by omega)]
    by_cases c2 : k = c.1
    · rw [if_pos c2]
      omega
    · rw [if_neg c2]
      exact g3 k k1 (by omega)
  · show s.2.2 - K.2.2.2 f' = sb H (fun k => if k = c.1 + 1 then K.2.2.1 f' else if k = c.1 then s.1 + 1 else c.2.1 k) (c.1 + 1 - 1) + H (if c.1 + 1 = c.1 + 1 then K.2.2.1 f' else if c.1 + 1 = c.1 then s.1 + 1 else c.2.1 (c.1 + 1))
    rw [if_pos rfl, hE.2.1, Nat.add_sub_cancel]
    obtain ⟨m, hm⟩ : ∃ m, c.1 = m + 1 := ⟨c.1 - 1, by omega⟩
    have e : sb H (fun k => if k = c.1 + 1 then K.2.2.1 f' else if k = c.1 then s.1 + 1 else c.2.1 k) c.1 = sb H c.2.1 (c.1 - 1) + (H (s.1 + 1) - 1) := by
      have e1 := sb_eq (H := H) (pc := c.2.1) (pc1 := fun k => if k = c.1 + 1 then K.2.2.1 f' else if k = c.1 then s.1 + 1 else c.2.1 k) m (fun k k1 k2 => by
        show (if k = c.1 + 1 then K.2.2.1 f' else if k = c.1 then s.1 + 1 else c.2.1 k) = c.2.1 k
        rw [if_neg (by omega), if_neg (by omega)])
      rw [show sb H (fun k => if k = c.1 + 1 then K.2.2.1 f' else if k = c.1 then s.1 + 1 else c.2.1 k) c.1 = sb H (fun k => if k = c.1 + 1 then K.2.2.1 f' else if k = c.1 then s.1 + 1 else c.2.1 k) (m + 1) from congrArg _ hm, sb, e1]
      show sb H c.2.1 m + (H (if m + 1 = c.1 + 1 then K.2.2.1 f' else if m + 1 = c.1 then s.1 + 1 else c.2.1 (m + 1)) - 1) = _
      rw [if_neg (by omega), if_pos (by omega), show m = c.1 - 1 by omega]
    rw [e, q1.2]
    omega
theorem ty_begin {K : aK} {L F f : Nat} {H : Nat → Nat} {g : Nat → Int32} (hw : wfK K L F H) (hf : f < F) : tyC L H (aBegin K f g) := by
  obtain ⟨h1, h2, h3⟩ := hw.2.2.1 f hf
  refine ⟨⟨Nat.le_refl _, show 1 ≤ 60 by decide⟩, fun k _ _ => h1, fun k k1 k2 => absurd (show k < 1 from k2) (by omega), ?_⟩
  show 0 = 0 + H (K.2.2.1 f)
  rw [h2]
/-! the class -/
def CC (σ : zS) (a : Nat) (c : aC) : Prop := σ.1 a 0 = nI c.1 ∧ (1 ≤ c.1 → σ.1 a 1 = nI (c.2.1 c.1)) ∧ σ.1 a 2 = nI c.2.2.2.2 ∧ (∀ j, j < c.2.2.2.2 → σ.1 (a + 3) j = c.2.2.2.1 j) ∧ (∀ k i, 1 ≤ k → k ≤ c.1 → i < 4 → σ.1 (a + 1) ((k - 1) * 4 + i) = c.2.2.1 k i) ∧ ∀ k, 1 ≤ k → k < c.1 → σ.1 (a + 2) k = nI (c.2.1 k)
def sA (a : Nat) (q j : Nat) : Prop := a ≤ q ∧ q < a + 4 ∧ (q = a → j ≤ 3)
theorem sC_A {a q j : Nat} (h : sC a q j) : sA a q j := by
  unfold sC at h
  unfold sA
  omega
theorem CC.top {σ : zS} {a : Nat} {c : aC} (h : CC σ a c) (h1 : 1 ≤ c.1) : CR σ a c.1 (c.2.2.1 c.1) (aTop c) := ⟨h.1, h.2.1 h1, h.2.2.1, h.2.2.2.1, fun i hi => h.2.2.2.2.1 c.1 i h1 (Nat.le_refl _) hi⟩
theorem CC.mid {σ σ1 : zS} {a : Nat} {c : aC} {s : aR} (h : CC σ a c) (hr : CR σ1 a c.1 (c.2.2.1 c.1) s) (hf : rfr (sC a) σ σ1) : CC σ1 a (aMid c s) := by
  obtain ⟨r0, r1, r2, r3, r4⟩ := hr
  refine ⟨r0, fun _ => ?_, r2, r3, fun k i k1 k2 hi => ?_, fun k k1 k2 => ?_⟩
  · show _ = nI (if c.1 = c.1 then s.1 else c.2.1 c.1)
    rw [if_pos rfl]
    exact r1
  · rw [hf.2 _ _ (fun z => by unfold sC at z; omega)]
    exact h.2.2.2.2.1 k i k1 k2 hi
  · have k2 : k < c.1 := k2
    show _ = nI (if k = c.1 then s.1 else c.2.1 k)
    rw [hf.2 _ _ (fun z => by unfold sC at z; omega), if_neg (by omega)]
    exact h.2.2.2.2.2 k k1 k2
theorem CC.fr {S : Nat → Nat → Prop} {σ σ1 : zS} {a : Nat} {c : aC} (h : CC σ a c) (hf : rfr S σ σ1) (hS : ∀ q j, S q j → q < a ∨ a + 4 ≤ q ∨ (q = a ∧ 3 ≤ j)) : CC σ1 a c := by
  have g : ∀ q j, a ≤ q → q < a + 4 → (q = a → j < 3) → σ1.1 q j = σ.1 q j := fun q j h1 h2 h3 => hf.2 q j (fun z => by have := hS _ _ z; omega)
  refine ⟨?_, fun h1 => ?_, ?_, fun j hj => ?_, fun k i k1 k2 hi => ?_, fun k k1 k2 => ?_⟩
  · rw [g _ _ (by omega) (by omega) (by omega)]; exact h.1
  · rw [g _ _ (by omega) (by omega) (by omega)]; exact h.2.1 h1
  · rw [g _ _ (by omega) (by omega) (by omega)]; exact h.2.2.1
  · rw [g _ _ (by omega) (by omega) (by omega)]; exact h.2.2.2.1 j hj
  · rw [g _ _ (by omega) (by omega) (by omega)]; exact h.2.2.2.2.1 k i k1 k2 hi
  · rw [g _ _ (by omega) (by omega) (by omega)]; exact h.2.2.2.2.2 k k1 k2
theorem cls_reach_C {K : aK} {L F a q1 N : Nat} {H : Nat → Nat} {σ : zS} {c : aC} (hw : wfK K L F H) (hq : q1 + 7 ≤ a ∨ a + 4 ≤ q1) (hN : 400 < N) (hC : CK σ q1 K L F) (hc : CC σ a c) (ht : tyC L H c) (hn : σ.2 a 4 = 1000001) : p_X0_reach a q1 N σ ∧ (r_X0_reach a q1 N σ).1 = nI (cmap (K.1 (aNext K c).1)) ∧ CC (r_X0_reach a q1 N σ).2 a (aMid c (aNext K c)) ∧ rfr (sC a) σ (r_X0_reach a q1 N σ).2 := by
  obtain ⟨h1, h2, h3, h4⟩ := ty_top hw ht
  obtain ⟨r1, r2, r3, r4⟩ := cls_reach (N := N) hw h1 ht.1 hq hN h2 hC (hc.top ht.1.1) hn
  exact ⟨r1, r2, hc.mid r3 r4, r4⟩
/-- the values of a new FRAME, from the last on -/
theorem cls_args {a q1 N m k : Nat} {v2 : Int32} (hm : 1 ≤ m ∧ m < 60) : ∀ (n : Nat) (σ : zS) (st : Nat → Int32) (h : Nat), n ≤ 4 → k ≤ 4 → h ≤ 1680 → (n ≤ k → n ≤ h) → (k ≤ n → k ≤ h) → σ.1 a 2 = nI h → (∀ j, j < h → σ.1 (a + 3) j = st j) → ∀ z, n < z → ∃ σ1, l_X0_enter a q1 N z v2 (nI (m * 4)) (nI k) (nI n - 1) σ = u_X0_enter_h0_2 a q1 N v2 (nI (m * 4)) (nI k) (-1) σ1 ∧ (p_X8_at 6 (q1 + 1) v2 (u_X0_enter_h0_1 a q1 N v2 (nI (m * 4)) (nI k) (-1) σ1) → q_X0_enter a q1 N z v2 (nI (m * 4)) (nI k) (nI n - 1) σ) ∧ σ1.1 a 2 = nI (h - (if n ≤ k then n else k)) ∧ (∀ i, i < n → σ1.1 (a + 1) (m * 4 + i) = if i < k then st (h - (if n ≤ k then n else k) + i) else 0) ∧ (∀ q j, ¬ ((q = a ∧ j = 2) ∨ (q = a + 1 ∧ m * 4 ≤ j ∧ j < m * 4 + n)) → σ1.1 q j = σ.1 q j) ∧ σ1.2 = σ.2 := by
  intro n
  induction n with
  | zero =>
    intro σ st h _ _ _ _ _ h2 _ z hz
    obtain ⟨z, rfl⟩ : ∃ y, z = y + 1 := ⟨z - 1, by omega⟩
    have c : nI 0 - 1 < 0 := by decide
    refine ⟨σ, ?_, fun hp => ?_, ?_, fun i hi => absurd hi (by omega), fun _ _ _ => rfl, rfl⟩
    · rw [l_X0_enter, if_pos c]
      rfl
    · rw [q_X0_enter]
      exact ⟨fun _ => hp, fun y => absurd c y⟩
    · rw [if_pos (Nat.zero_le _)]
      exact h2
  | succ n ih =>
    intro σ st h h4 k4 hh b1 b2 h2 h3 z hz
    obtain ⟨z, rfl⟩ : ∃ y, z = y + 1 := ⟨z - 1, by omega⟩
    have e : nI (n + 1) - 1 = nI n := nI_pred n
    have c : ¬ nI n < 0 := nI_pos (by omega)
    have e4 : nI (m * 4) + nI n = nI (m * 4 + n) := nI_add _ _
    have e5 : nI n + (-1) = nI n - 1 := by rw [Int32.sub_eq_add_neg]
    by_cases ck : k ≤ n
    · have eu : u_X0_enter_h0_3 a q1 N v2 (nI (m * 4)) (nI k) (nI n) σ = zuI σ (a + 1) (m * 4 + n) 0 := by
        unfold u_X0_enter_h0_3
        rw [e4, put_i (by omega) (by decide)]
      obtain ⟨σ1, r1, r2, r3, r4, r5, r6⟩ := ih (zuI σ (a + 1) (m * 4 + n) 0) st h (by omega) k4 hh (by omega) (fun _ => b2 (by omega)) (by rw [gI_n (by omega)]; exact h2) (fun j hj => by rw [gI_n (by omega)]; exact h3 j hj) z (by omega)
      have ei : (if n ≤ k then n else k) = (if n + 1 ≤ k then n + 1 else k) := by
        rw [if_neg (show ¬ n + 1 ≤ k by omega)]
        by_cases c1 : n ≤ k
        · rw [if_pos c1]; omega
        · rw [if_neg c1]
      rw [ei] at r3 r4
      refine ⟨σ1, ?_, fun hp => ?_, r3, fun i hi => ?_, fun q j hq => ?_, r6⟩
      · rw [l_X0_enter, e, if_neg c, if_pos (nI_le ck (by omega)), eu, e5]
        exact r1
      · rw [q_X0_enter, e, eu, e5]
        exact ⟨fun y => absurd y c, fun _ => ⟨fun _ => ⟨put_p (by decide), r2 hp⟩, fun y => absurd (nI_le ck (by omega)) y⟩⟩
      · by_cases c1 : i < n
        · exact r4 i c1
        · have ei : i = n := by omega
          subst ei
          rw [r5 _ _ (by omega), gI_h rfl rfl, if_neg (by omega)]
      · rw [r5 _ _ (by omega), gI_n (by omega)]
    · have b3 : n + 1 ≤ h := b1 (by omega)
      have ep1 : u_X0_pop_1 a σ = zuI σ a 2 (nI (h - 1)) := by
        unfold u_X0_pop_1
        rw [h2, nI_s1 (by omega)]
      have ep : r_X0_pop a σ = (σ.1 (a + 3) (h - 1), zuI σ a 2 (nI (h - 1))) := by
        unfold r_X0_pop
        rw [ep1, gI_h rfl rfl, nI_clamp (by omega), gI_n (by omega), h2, if_neg (nI_nle (by omega) (by omega)), if_pos (show nI h ≤ (1680 : Int32) from nI_le (b := 1680) (by omega) (by decide))]
      have pp : p_X0_pop a σ := by
        intro _ _
        rw [ep1, gI_h rfl rfl]
        exact vp_in_nI (by omega) (by decide)
      have eu : u_X0_enter_h0_5 a q1 N v2 (nI (m * 4)) (nI k) (nI n) σ = zuI (zuI σ a 2 (nI (h - 1))) (a + 1) (m * 4 + n) (st (h - 1)) := by
        unfold u_X0_enter_h0_5 u_X0_enter_h0_4
        rw [ep, e4, put_i (by omega) (by decide)]
        show zuI _ _ _ (σ.1 (a + 3) (h - 1)) = _
        rw [h3 (h - 1) (by omega)]
      obtain ⟨σ1, r1, r2, r3, r4, r5, r6⟩ := ih (zuI (zuI σ a 2 (nI (h - 1))) (a + 1) (m * 4 + n) (st (h - 1))) st (h - 1) (by omega) k4 (by omega) (by omega) (by omega) (by rw [gI_n (by omega)]; exact gI_h rfl rfl) (fun j hj => by rw [gI_n (by omega), gI_n (by omega)]; exact h3 j (by omega)) z (by omega)
      rw [if_pos (show n ≤ k by omega)] at r3 r4
      refine ⟨σ1, ?_, fun hp => ?_, ?_, fun i hi => ?_, fun q j hq => ?_, r6⟩
      · rw [l_X0_enter, e, if_neg c, if_neg (nI_ge (by omega) (by omega)), eu, e5]
        exact r1
      · rw [q_X0_enter, e, eu, e5]
        exact ⟨fun y => absurd y c, fun _ => ⟨fun y => absurd y (nI_ge (by omega) (by omega)), fun _ => ⟨pp, put_p (by decide), r2 hp⟩⟩⟩
      · rw [r3, if_pos (by omega)]
        congr 1
        omega
      · rw [if_pos (by omega), if_pos (by omega)]
        by_cases c1 : i < n
        · rw [r4 i c1, if_pos (by omega)]
          congr 1
          omega
        · have ei : i = n := by omega
          subst ei
          rw [r5 _ _ (by omega), gI_h rfl rfl]
          congr 1
          omega
      · rw [r5 _ _ (by omega), gI_n (by omega), gI_n (by omega)]
theorem zNone1 : ¬ (zlay (1000001 - 1)).1 = 20 := by decide
theorem zNone2 : (Int32.ofNat (zlay (1000001 - 1)).2) ≤ 0 := by decide
theorem cls_enter_C {K : aK} {L F a q1 N f : Nat} {σ : zS} {c : aC} {s : aR} (hq : q1 + 7 ≤ a ∨ a + 4 ≤ q1) (hL : L ≤ 400) (hF : F ≤ 6) (hN : 400 < N) (hC : CK σ q1 K L F) (hc : CC σ a (aMid c s)) (h1 : 1 ≤ c.1) (h60 : c.1 < 60) (hs : s.1 < L) (hf : f < F) (hx : K.2.1 s.1 = nI f) (h4 : K.2.2.2 f ≤ 4) (hk : K.2.2.2 f ≤ s.2.2) (hh : s.2.2 ≤ 1680) (hn : σ.2 a 4 = 1000001) : p_X0_enter a q1 N σ ∧ CC (s_X0_enter a q1 N σ) a (aEnter K c s f) ∧ rfr (sA a) σ (s_X0_enter a q1 N σ) := by
  obtain ⟨c0, c1, c2, c3, c4, c5⟩ := hc
  have c0 : σ.1 a 0 = nI c.1 := c0
  have c1 : σ.1 a 1 = nI s.1 := by
    rw [c1 h1]
    exact congrArg nI (if_pos rfl)
  have c2 : σ.1 a 2 = nI s.2.2 := c2
  have c3 : ∀ j, j < s.2.2 → σ.1 (a + 3) j = s.2.1 j := c3
  obtain ⟨k1, k2⟩ := hC
  have ec : f_X0_called a q1 σ = nI f := by
    unfold f_X0_called
    rw [c1, at_i (by omega) (by decide), (k1 s.1 hs).2, hx]
  have e3 : f_X8_at 6 (q1 + 2) (nI f) σ = nI (K.2.2.2 f) := by rw [at_i (by omega) (by decide), (k2 f hf).2]
  have e4 : nI c.1 * 4 = nI (c.1 * 4) := pk_mul c.1 4
  have eu : u_X0_enter_4 a q1 N σ = zuI σ (a + 2) c.1 (nI (s.1 + 1)) := by
    unfold u_X0_enter_4
    rw [c0, c1, nI_1, put_i (by omega) (by decide)]
  obtain ⟨σ1, r1, r2, r3, r4, r5, r6⟩ := cls_args (a := a) (q1 := q1) (N := N) (m := c.1) (k := K.2.2.2 f) (v2 := nI f) ⟨h1, h60⟩ 4 (zuI σ (a + 2) c.1 (nI (s.1 + 1))) s.2.1 s.2.2 (Nat.le_refl _) h4 hh (by omega) (fun _ => hk) (by rw [gI_n (by omega)]; exact c2) (fun j hj => by rw [gI_n (by omega)]; exact c3 j hj) N (by omega)
  have ek : (if 4 ≤ K.2.2.2 f then 4 else K.2.2.2 f) = K.2.2.2 f := by
    by_cases z : 4 ≤ K.2.2.2 f
    · rw [if_pos z]; omega
    · rw [if_neg z]
  rw [ek] at r3 r4
  have d0 : σ1.1 a 0 = nI c.1 := by rw [r5 _ _ (by omega), gI_n (by omega)]; exact c0
  have ee : σ1.1 (q1 + 1) f = nI (K.2.2.1 f) := by rw [r5 _ _ (by omega), gI_n (by omega)]; exact (k2 f hf).1
  have es : s_X0_enter a q1 N σ = zuI (zuI σ1 a 0 (nI (c.1 + 1))) a 1 (nI (K.2.2.1 f)) := by
    unfold s_X0_enter
    rw [hn, if_neg zNone1, if_pos zNone2, ec, e3, c0, e4, eu]
    refine Eq.trans (show _ = _ from r1) ?_
    unfold u_X0_enter_h0_2 u_X0_enter_h0_1
    rw [d0, nI_1, at_i (by omega) (by decide), gI_n (by omega), ee]
  refine ⟨?_, ?_, ?_⟩
  · unfold p_X0_enter
    rw [hn, ec, e3, c0, e4, eu]
    exact ⟨by decide, fun z => absurd z zNone1, fun _ => ⟨rfl, fun _ => ⟨at_p (by decide), at_p (by decide), put_p (by decide), r2 (at_p (by decide))⟩⟩⟩
  · rw [es]
    refine ⟨?_, fun _ => ?_, ?_, fun j hj => ?_, fun k i j1 j2 hi => ?_, fun k j1 j2 => ?_⟩
    · rw [gI_n (by omega), gI_h rfl rfl]
      rfl
    · show _ = nI (if c.1 + 1 = c.1 + 1 then _ else _)
      rw [gI_h rfl rfl, if_pos rfl]
    · rw [gI_n (by omega), gI_n (by omega)]
      exact r3
    · have hj : j < s.2.2 - K.2.2.2 f := hj
      rw [gI_n (by omega), gI_n (by omega), r5 _ _ (by omega), gI_n (by omega)]
      exact c3 j (by omega)
    · have j2 : k ≤ c.1 + 1 := j2
      rw [gI_n (by omega), gI_n (by omega)]
      show _ = if k = c.1 + 1 then (if i < K.2.2.2 f then s.2.1 (s.2.2 - K.2.2.2 f + i) else 0) else c.2.2.1 k i
      by_cases z : k = c.1 + 1
      · rw [if_pos z, z, Nat.add_sub_cancel]
        exact r4 i hi
      · rw [if_neg z, r5 _ _ (by omega), gI_n (by omega)]
        exact c4 k i j1 (show k ≤ c.1 by omega) hi
    · have j2 : k < c.1 + 1 := j2
      rw [gI_n (by omega), gI_n (by omega), r5 _ _ (by omega)]
      show _ = nI (if k = c.1 + 1 then K.2.2.1 f else if k = c.1 then s.1 + 1 else c.2.1 k)
      rw [if_neg (by omega)]
      by_cases z : k = c.1
      · rw [if_pos z, gI_h rfl z]
      · rw [if_neg z, gI_n (by omega), c5 k j1 (show k < c.1 by omega)]
        exact congrArg nI (if_neg z)
  · rw [es]
    refine rfr.uI (rfr.uI ⟨r6, fun q j hq => ?_⟩ ⟨Nat.le_refl _, by omega, fun _ => by omega⟩) ⟨Nat.le_refl _, by omega, fun _ => by omega⟩
    unfold sA at hq
    rw [r5 _ _ (by omega), gI_n (by omega)]
theorem cls_leave_C {K : aK} {a : Nat} {σ : zS} {c : aC} {s : aR} (hc : CC σ a (aMid c s)) (h1 : 1 ≤ c.1) (h60 : c.1 ≤ 60) (hk : 1 ≤ s.2.2) (hh : s.2.2 ≤ 1680) (hn : σ.2 a 4 = 1000001) : p_X0_leave a σ ∧ CC (s_X0_leave a σ) a (aLeave c s) ∧ (c.1 = 1 → (s_X0_leave a σ).1 a 3 = s.2.1 (s.2.2 - 1)) ∧ (¬ c.1 = 1 → (s_X0_leave a σ).1 a 3 = σ.1 a 3) ∧ rfr (sA a) σ (s_X0_leave a σ) := by
  obtain ⟨c0, c1, c2, c3, c4, c5⟩ := hc
  have c0 : σ.1 a 0 = nI c.1 := c0
  have c2 : σ.1 a 2 = nI s.2.2 := c2
  have c3 : ∀ j, j < s.2.2 → σ.1 (a + 3) j = s.2.1 j := c3
  have eu : u_X0_leave_1 a σ = zuI σ a 0 (nI (c.1 - 1)) := by
    unfold u_X0_leave_1
    rw [c0, nI_s1 h1]
  have hn1 : (zuI σ a 0 (nI (c.1 - 1))).2 a 4 = 1000001 := hn
  by_cases z : c.1 = 1
  · have e0 : nI (c.1 - 1) = 0 := by rw [z]; rfl
    have ep1 : u_X0_pop_1 a (zuI σ a 0 (nI (c.1 - 1))) = zuI (zuI σ a 0 (nI (c.1 - 1))) a 2 (nI (s.2.2 - 1)) := by
      unfold u_X0_pop_1
      rw [gI_n (by omega), c2, nI_s1 hk]
    have ep : r_X0_pop a (zuI σ a 0 (nI (c.1 - 1))) = (s.2.1 (s.2.2 - 1), zuI (zuI σ a 0 (nI (c.1 - 1))) a 2 (nI (s.2.2 - 1))) := by
      unfold r_X0_pop
      rw [ep1, gI_h rfl rfl, nI_clamp (by omega), gI_n (by omega), gI_n (by omega), gI_n (by omega), c2, if_neg (nI_nle (by omega) (by omega)), if_pos (show nI s.2.2 ≤ (1680 : Int32) from nI_le (b := 1680) (by omega) (by decide)), c3 _ (by omega)]
    have pp : p_X0_pop a (zuI σ a 0 (nI (c.1 - 1))) := by
      intro _ _
      rw [ep1, gI_h rfl rfl]
      exact vp_in_nI (by omega) (by decide)
    have es : s_X0_leave a σ = zuI (zuI (zuI σ a 0 (nI (c.1 - 1))) a 2 (nI (s.2.2 - 1))) a 3 (s.2.1 (s.2.2 - 1)) := by
      unfold s_X0_leave u_X0_leave_8 u_X0_leave_7
      rw [eu, hn1, if_neg zNone1, if_pos zNone2, gI_h rfl rfl, if_pos e0, ep]
    refine ⟨?_, ?_, fun _ => ?_, fun y => absurd z y, ?_⟩
    · unfold p_X0_leave
      rw [eu, hn1, gI_h rfl rfl]
      exact ⟨by decide, fun y => absurd y zNone1, fun _ => ⟨rfl, fun _ => ⟨fun y => absurd e0 y, fun _ => pp⟩⟩⟩
    · rw [es]
      refine ⟨?_, fun y => absurd (show 1 ≤ c.1 - 1 from y) (by omega), ?_, fun j hj => ?_, fun k i j1 j2 hi => absurd (show k ≤ c.1 - 1 from j2) (by omega), fun k j1 j2 => absurd (show k < c.1 - 1 from j2) (by omega)⟩
      · rw [gI_n (by omega), gI_n (by omega), gI_h rfl rfl]
        rfl
      · show _ = nI (if c.1 = 1 then s.2.2 - 1 else s.2.2)
        rw [gI_n (by omega), gI_h rfl rfl, if_pos z]
      · have hj : j < (if c.1 = 1 then s.2.2 - 1 else s.2.2) := hj
        rw [if_pos z] at hj
        rw [gI_n (by omega), gI_n (by omega), gI_n (by omega)]
        exact c3 j (by omega)
    · rw [es, gI_h rfl rfl]
    · rw [es]
      exact ((rfr.rf.uI ⟨Nat.le_refl _, by omega, fun _ => by omega⟩).uI ⟨Nat.le_refl _, by omega, fun _ => by omega⟩).uI ⟨Nat.le_refl _, by omega, fun _ => by omega⟩
  · have e0 : ¬ nI (c.1 - 1) = 0 := nI_ne0 (by omega) (by omega)
    have e5 : σ.1 (a + 2) (c.1 - 1) = nI (c.2.1 (c.1 - 1)) := by
      rw [c5 (c.1 - 1) (by omega) (show c.1 - 1 < c.1 by omega)]
      exact congrArg nI (if_neg (show ¬ c.1 - 1 = c.1 by omega))
    have es : s_X0_leave a σ = zuI (zuI σ a 0 (nI (c.1 - 1))) a 1 (nI (c.2.1 (c.1 - 1))) := by
      unfold s_X0_leave u_X0_leave_6
      rw [eu, hn1, if_neg zNone1, if_pos zNone2, gI_h rfl rfl, if_neg e0, at_i (by omega) (by decide), gI_n (by omega), e5]
    refine ⟨?_, ?_, fun y => absurd y z, fun _ => ?_, ?_⟩
    · unfold p_X0_leave
      rw [eu, hn1, gI_h rfl rfl]
      exact ⟨by decide, fun y => absurd y zNone1, fun _ => ⟨rfl, fun _ => ⟨fun _ => at_p (by decide), fun y => absurd y e0⟩⟩⟩
    · rw [es]
      refine ⟨?_, fun _ => gI_h rfl rfl, ?_, fun j hj => ?_, fun k i j1 j2 hi => ?_, fun k j1 j2 => ?_⟩
      · rw [gI_n (by omega), gI_h rfl rfl]
        rfl
      · show _ = nI (if c.1 = 1 then s.2.2 - 1 else s.2.2)
        rw [gI_n (by omega), gI_n (by omega), if_neg z]
        exact c2
      · have hj : j < (if c.1 = 1 then s.2.2 - 1 else s.2.2) := hj
        rw [if_neg z] at hj
        rw [gI_n (by omega), gI_n (by omega)]
        exact c3 j (by omega)
      · have j2 : k ≤ c.1 - 1 := j2
        rw [gI_n (by omega), gI_n (by omega)]
        exact c4 k i j1 (show k ≤ c.1 by omega) hi
      · have j2 : k < c.1 - 1 := j2
        rw [gI_n (by omega), gI_n (by omega), c5 k j1 (show k < c.1 by omega)]
        exact congrArg nI (if_neg (show ¬ k = c.1 by omega))
    · rw [es, gI_n (by omega), gI_n (by omega)]
    · rw [es]
      exact (rfr.rf.uI ⟨Nat.le_refl _, by omega, fun _ => by omega⟩).uI ⟨Nat.le_refl _, by omega, fun _ => by omega⟩
