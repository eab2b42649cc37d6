/-! courses worked out (m = 0) or foreseen (m = 1) -/
def aStp (K : aK) (c : aC) : aC := if K.1 (aNext K c).1 = 13 then aLeave c (aNext K c) else if c.1 < 60 then aEnter K c (aNext K c) (K.2.1 (aNext K c).1).toNatClampNeg else (61, c.2)
def aIt (K : aK) : Nat → aC → aC
  | 0, c => c
  | k + 1, c => aIt K k (aStp K c)
def aLive (K : aK) (k : Nat) (c : aC) : Prop := ∀ j, j ≤ k → 1 ≤ (aIt K j c).1 ∧ (aIt K j c).1 ≤ 60
/-- the depths that were found out, from the place s on -/
def CFr (σ : zS) (Q s : Nat) (K : aK) (c : aC) : Prop := ∀ k, s + k < 3000 → aLive K k c → σ.1 Q (s + k) = nI (aIt K (k + 1) c).1
def CF (σ : zS) (r a : Nat) (K : aK) (c : aC) (e : Nat) : Prop := ∃ Q s, σ.2 a 4 = Q + 1 ∧ zlay Q = (20, 3000) ∧ (Q < r ∨ r + 25 ≤ Q) ∧ σ.1 a 5 = nI s ∧ s ≤ e ∧ CFr σ Q s K c
def Cm (m : Nat) (σ : zS) (r a : Nat) (K : aK) (c : aC) (e : Nat) : Prop := (m = 0 ∧ CC σ a c ∧ σ.2 a 4 = 1000001) ∨ (m = 1 ∧ σ.1 a 0 = nI c.1 ∧ CF σ r a K c e)
def Cd (m : Nat) (σ : zS) (r a : Nat) (K : aK) (c : aC) (e : Nat) : Prop := (m = 0 ∧ CC σ a (aMid c (aNext K c)) ∧ σ.2 a 4 = 1000001) ∨ (m = 1 ∧ σ.1 a 0 = nI c.1 ∧ CF σ r a K c e)
def Cb (m : Nat) (σ : zS) (r a : Nat) (K : aK) (c : aC) (e : Nat) : Prop := (m = 0 ∧ σ.2 a 4 = 1000001) ∨ (m = 1 ∧ CF σ r a K c e)
theorem Cm.dep {m r a e : Nat} {σ : zS} {K : aK} {c : aC} (h : Cm m σ r a K c e) : σ.1 a 0 = nI c.1 := by
  rcases h with h | h
  · exact h.2.1.1
  · exact h.2.1
theorem CF.fr {S : Nat → Nat → Prop} {r a e : Nat} {σ σ1 : zS} {K : aK} {c : aC} (h : CF σ r a K c e) (hf : rfr S σ σ1) (hS : ∀ q j, S q j → (r ≤ q ∧ q < r + 25) ∧ ¬ (q = a ∧ j = 5)) : CF σ1 r a K c e := by
  obtain ⟨Q, s, h1, h2, h3, h4, h5, h6⟩ := h
  refine ⟨Q, s, by rw [hf.1]; exact h1, h2, h3, (hf.2 _ _ (fun z => (hS _ _ z).2 ⟨rfl, rfl⟩)).trans h4, h5, fun k k1 k2 => ?_⟩
  rw [hf.2 _ _ (fun z => by have := (hS _ _ z).1; omega)]
  exact h6 k k1 k2
theorem Cm.fr {S : Nat → Nat → Prop} {m r a e : Nat} {σ σ1 : zS} {K : aK} {c : aC} (h : Cm m σ r a K c e) (hf : rfr S σ σ1) (hS : ∀ q j, S q j → (r ≤ q ∧ q < r + 25) ∧ (q < a ∨ a + 4 ≤ q)) : Cm m σ1 r a K c e := by
  rcases h with ⟨h1, h2, h3⟩ | ⟨h1, h2, h3⟩
  · exact Or.inl ⟨h1, h2.fr hf (fun q j z => by have := hS _ _ z; omega), by rw [hf.1]; exact h3⟩
  · exact Or.inr ⟨h1, (hf.2 _ _ (fun z => by have := hS _ _ z; omega)).trans h2, h3.fr hf (fun q j z => ⟨(hS _ _ z).1, by have := (hS _ _ z).2; omega⟩)⟩
theorem Cd.fr {S : Nat → Nat → Prop} {m r a e : Nat} {σ σ1 : zS} {K : aK} {c : aC} (h : Cd m σ r a K c e) (hf : rfr S σ σ1) (hS : ∀ q j, S q j → (r ≤ q ∧ q < r + 25) ∧ (q < a ∨ a + 4 ≤ q)) : Cd m σ1 r a K c e := by
  rcases h with ⟨h1, h2, h3⟩ | ⟨h1, h2, h3⟩
  · exact Or.inl ⟨h1, h2.fr hf (fun q j z => by have := hS _ _ z; omega), by rw [hf.1]; exact h3⟩
  · exact Or.inr ⟨h1, (hf.2 _ _ (fun z => by have := hS _ _ z; omega)).trans h2, h3.fr hf (fun q j z => ⟨(hS _ _ z).1, by have := (hS _ _ z).2; omega⟩)⟩
theorem Cb.fr {S : Nat → Nat → Prop} {m r a e : Nat} {σ σ1 : zS} {K : aK} {c : aC} (h : Cb m σ r a K c e) (hf : rfr S σ σ1) (hS : ∀ q j, S q j → (r ≤ q ∧ q < r + 25) ∧ (q < a ∨ a + 4 ≤ q)) : Cb m σ1 r a K c e := by
  rcases h with ⟨h1, h3⟩ | ⟨h1, h3⟩
  · exact Or.inl ⟨h1, by rw [hf.1]; exact h3⟩
  · exact Or.inr ⟨h1, h3.fr hf (fun q j z => ⟨(hS _ _ z).1, by have := (hS _ _ z).2; omega⟩)⟩
theorem CF.up {r a e : Nat} {σ : zS} {K : aK} {c : aC} (h : CF σ r a K c e) : CF σ r a K c (e + 1) := by
  obtain ⟨Q, s, h1, h2, h3, h4, h5, h6⟩ := h
  exact ⟨Q, s, h1, h2, h3, h4, by omega, h6⟩
theorem Cm.up {m r a e : Nat} {σ : zS} {K : aK} {c : aC} (h : Cm m σ r a K c e) : Cm m σ r a K c (e + 1) := by
  rcases h with h | ⟨h1, h2, h3⟩
  · exact Or.inl h
  · exact Or.inr ⟨h1, h2, h3.up⟩
theorem Cb.up {m r a e : Nat} {σ : zS} {K : aK} {c : aC} (h : Cb m σ r a K c e) : Cb m σ r a K c (e + 1) := by
  rcases h with h | ⟨h1, h3⟩
  · exact Or.inl h
  · exact Or.inr ⟨h1, h3.up⟩
theorem CFr.next {Q s : Nat} {σ : zS} {K : aK} {c : aC} (h : CFr σ Q s K c) (hc : 1 ≤ c.1 ∧ c.1 ≤ 60) : CFr σ Q (s + 1) K (aStp K c) := by
  intro k k1 k2
  have q := h (k + 1) (by omega) (fun j hj => by
    cases j with
    | zero => exact hc
    | succ j => exact k2 j (by omega))
  rw [show s + 1 + k = s + (k + 1) by omega]
  exact q
theorem co_reach {m L F r a q1 N e : Nat} {H : Nat → Nat} {σ : zS} {K : aK} {c : aC} (hw : wfK K L F H) (hq : q1 + 7 ≤ a ∨ a + 4 ≤ q1) (hN : 400 < N) (hC : CK σ q1 K L F) (ht : tyC L H c) (he : m = 1 → e < 3000) (h : Cm m σ r a K c e) : p_X0_reach a q1 N σ ∧ (r_X0_reach a q1 N σ).1 = (if K.1 (aNext K c).1 = 13 then 13 else 12) ∧ Cd m (r_X0_reach a q1 N σ).2 r a K c e ∧ rfr (sC a) σ (r_X0_reach a q1 N σ).2 := by
  obtain ⟨-, -, -, h813⟩ := ty_top hw ht
  rcases h with ⟨h1, h2, h3⟩ | ⟨h1, h2, h3⟩
  · obtain ⟨r1, r2, r3, r4⟩ := cls_reach_C (N := N) hw hq hN hC h2 ht h3
    refine ⟨r1, ?_, Or.inl ⟨h1, r3, by rw [r4.1]; exact h3⟩, r4⟩
    rw [r2]
    rcases h813 with z | z
    · rw [z]
      rfl
    · rw [z]
      rfl
  · obtain ⟨Q, s, p1, p2, p3, p4, p5, p6⟩ := h3
    have hs : s < 3000 := by have := he h1; omega
    have q0 : σ.1 Q s = nI (aStp K c).1 := p6 0 (by omega) (fun j hj => by rw [show j = 0 by omega]; exact ht.1)
    have eP : σ.2 a 4 - 1 = Q := by rw [p1]; rfl
    have z1 : (zlay Q).1 = 20 := by rw [p2]
    have z3 : (zlay Q).2 = 3000 := by rw [p2]
    have z2 : ¬ (Int32.ofNat 3000) ≤ 0 := by decide
    have d6 := ht.1
    have ef : f_X8_at 3000 Q (σ.1 a 5) σ = nI (aStp K c).1 := by
      rw [p4, at_i hs (by decide), q0]
    have e13 : (f_X8_at 3000 Q (σ.1 a 5) σ ≤ σ.1 a 0) ↔ K.1 (aNext K c).1 = 13 := by
      rw [ef, h2]
      unfold aStp
      by_cases z : K.1 (aNext K c).1 = 13
      · rw [if_pos z]
        exact ⟨fun _ => z, fun _ => nI_le (show c.1 - 1 ≤ c.1 by omega) (by omega)⟩
      · rw [if_neg z]
        by_cases y : c.1 < 60
        · rw [if_pos y]
          exact ⟨fun x => absurd x (nI_ge (show c.1 < c.1 + 1 by omega) (show c.1 + 1 < 2 ^ 31 by omega)), fun x => absurd x z⟩
        · rw [if_neg y]
          exact ⟨fun x => absurd x (nI_ge (show c.1 < 61 by omega) (show 61 < 2 ^ 31 by decide)), fun x => absurd x z⟩
    have er : r_X0_reach a q1 N σ = (if K.1 (aNext K c).1 = 13 then 13 else 12, σ) := by
      unfold r_X0_reach
      rw [eP, if_pos z1, z3, if_neg z2, if_pos z1]
      by_cases z : K.1 (aNext K c).1 = 13
      · rw [if_pos (e13.mpr z), if_pos z]
      · rw [if_neg (fun x => z (e13.mp x)), if_neg z]
    rw [er]
    refine ⟨?_, rfl, Or.inr ⟨h1, h2, Q, s, p1, p2, p3, p4, p5, p6⟩, rfr.rf⟩
    unfold p_X0_reach
    rw [eP, z3]
    have hne : σ.2 a 4 ≠ 0 := by rw [p1]; exact Nat.succ_ne_zero _
    exact ⟨hne, fun _ => ⟨fun x => absurd x z2, fun _ => ⟨hne, fun _ => at_p (by decide), fun x => absurd z1 x⟩⟩, fun x => absurd z1 x⟩
def sA5 (a : Nat) (q j : Nat) : Prop := a ≤ q ∧ q < a + 4 ∧ (q = a → j ≤ 3 ∨ j = 5)
theorem sA_5 {a q j : Nat} (h : sA a q j) : sA5 a q j := ⟨h.1, h.2.1, fun z => Or.inl (h.2.2 z)⟩
theorem co_enter {m L F r a q1 N e f : Nat} {H : Nat → Nat} {σ : zS} {K : aK} {c : aC} (hw : wfK K L F H) (hra : r ≤ a ∧ a + 4 ≤ r + 25) (hq : q1 + 7 ≤ a ∨ a + 4 ≤ q1) (hN : 400 < N) (hC : CK σ q1 K L F) (ht : tyC L H c) (h8 : K.1 (aNext K c).1 = 8) (hf : f < F) (hx : K.2.1 (aNext K c).1 = nI f) (h60 : c.1 < 60) (h : Cd m σ r a K c e) : p_X0_enter a q1 N σ ∧ Cm m (s_X0_enter a q1 N σ) r a K (aEnter K c (aNext K c) f) (e + 1) ∧ rfr (sA5 a) σ (s_X0_enter a q1 N σ) := by
  obtain ⟨-, -, q1', -⟩ := ty_top hw ht
  have hty := ht
  obtain ⟨k1, k2⟩ := ty_enter hw ht h8 hf hx h60
  have hF := hw.2.1
  rcases h with ⟨h1, h2, h3⟩ | ⟨h1, h2, h3⟩
  · have hs := q1'.1
    have hb := (ty_top hw ht).1
    have hH := (hw.2.2.2 _ hs).1
    have hh : (aNext K c).2.2 ≤ 1680 := by rw [q1'.2]; omega
    obtain ⟨r1, r2, r3⟩ := cls_enter_C (N := N) hq hw.1 hF hN hC h2 ht.1.1 h60 hs hf hx (hw.2.2.1 f hf).2.2 k2 hh h3
    exact ⟨r1, Or.inl ⟨h1, r2, by rw [r3.1]; exact h3⟩, r3.wk (fun q j z => sA_5 z)⟩
  · obtain ⟨Q, s, p1, p2, p3, p4, p5, p6⟩ := h3
    have eP : σ.2 a 4 - 1 = Q := by rw [p1]; rfl
    have z1 : (zlay Q).1 = 20 := by rw [p2]
    have z3 : (zlay Q).2 = 3000 := by rw [p2]
    have z2 : ¬ (Int32.ofNat 3000) ≤ 0 := by decide
    have hne : σ.2 a 4 ≠ 0 := by rw [p1]; exact Nat.succ_ne_zero _
    have es : s_X0_enter a q1 N σ = zuI (zuI σ a 0 (nI (c.1 + 1))) a 5 (nI (s + 1)) := by
      unfold s_X0_enter u_X0_enter_3 u_X0_enter_2
      rw [eP, if_pos z1, z3, if_neg z2, gI_n (by omega), h2, p4, nI_1, nI_1]
    have ec : aStp K c = aEnter K c (aNext K c) f := by
      unfold aStp
      rw [if_neg (by rw [h8]; decide), if_pos h60, hx, nI_clamp (by omega)]
    have hn := CFr.next p6 ht.1
    rw [ec] at hn
    refine ⟨?_, Or.inr ⟨h1, ?_, Q, s + 1, ?_, p2, p3, ?_, by omega, fun k j1 j2 => ?_⟩, ?_⟩
    · unfold p_X0_enter
      rw [eP, z3]
      exact ⟨hne, fun _ x => absurd x z2, fun x => absurd z1 x⟩
    · rw [es, gI_n (by omega), gI_h rfl rfl]
      rfl
    · rw [es]
      exact p1
    · rw [es, gI_h rfl rfl]
    · rw [es, gI_n (by omega), gI_n (by omega)]
      exact hn k j1 j2
    · rw [es]
      exact (rfr.rf.uI (show sA5 a _ _ from ⟨Nat.le_refl _, by omega, fun _ => by omega⟩)).uI (show sA5 a _ _ from ⟨Nat.le_refl _, by omega, fun _ => by omega⟩)
theorem co_leave {m L F r a e : Nat} {H : Nat → Nat} {σ : zS} {K : aK} {c : aC} (hw : wfK K L F H) (hra : r ≤ a ∧ a + 4 ≤ r + 25) (ht : tyC L H c) (h13 : K.1 (aNext K c).1 = 13) (h : Cd m σ r a K c e) : p_X0_leave a σ ∧ (s_X0_leave a σ).1 a 0 = nI (c.1 - 1) ∧ (2 ≤ c.1 → Cm m (s_X0_leave a σ) r a K (aLeave c (aNext K c)) (e + 1)) ∧ (m = 0 → c.1 = 1 → (s_X0_leave a σ).1 a 3 = (aNext K c).2.1 ((aNext K c).2.2 - 1)) ∧ (m = 0 → ∃ h, h ≤ 1680 ∧ (s_X0_leave a σ).1 a 2 = nI h) ∧ rfr (sA5 a) σ (s_X0_leave a σ) := by
  obtain ⟨hb, -, q1', -⟩ := ty_top hw ht
  have hs := q1'.1
  have hH := (hw.2.2.2 _ hs).1
  have gI := (hw.2.2.2 _ hs).2
  unfold wfI at gI
  rw [h13] at gI
  have gI : H (aNext K c).1 = 1 := gI
  have hh : 1 ≤ (aNext K c).2.2 ∧ (aNext K c).2.2 ≤ 1680 := by rw [q1'.2]; omega
  have d6 := ht.1
  rcases h with ⟨h1, h2, h3⟩ | ⟨h1, h2, h3⟩
  · obtain ⟨r1, r2, r3, r4, r5⟩ := cls_leave_C (K := K) h2 ht.1.1 ht.1.2 hh.1 hh.2 h3
    refine ⟨r1, r2.1, fun _ => Or.inl ⟨h1, r2, by rw [r5.1]; exact h3⟩, fun _ z => r3 z, fun _ => ⟨_, ?_, r2.2.2.1⟩, r5.wk (fun q j z => sA_5 z)⟩
    show (if c.1 = 1 then (aNext K c).2.2 - 1 else (aNext K c).2.2) ≤ 1680
    split <;> omega
  · obtain ⟨Q, s, p1, p2, p3, p4, p5, p6⟩ := h3
    have eu : u_X0_leave_1 a σ = zuI σ a 0 (nI (c.1 - 1)) := by
      unfold u_X0_leave_1
      rw [h2, nI_s1 (by omega)]
    have eP : (zuI σ a 0 (nI (c.1 - 1))).2 a 4 - 1 = Q := by
      show σ.2 a 4 - 1 = Q
      rw [p1]
      rfl
    have z1 : (zlay Q).1 = 20 := by rw [p2]
    have z3 : (zlay Q).2 = 3000 := by rw [p2]
    have z2 : ¬ (Int32.ofNat 3000) ≤ 0 := by decide
    have hne : (zuI σ a 0 (nI (c.1 - 1))).2 a 4 ≠ 0 := by
      show σ.2 a 4 ≠ 0
      rw [p1]
      exact Nat.succ_ne_zero _
    have es : s_X0_leave a σ = zuI (zuI σ a 0 (nI (c.1 - 1))) a 5 (nI (s + 1)) := by
      unfold s_X0_leave u_X0_leave_5
      rw [eu, eP, if_pos z1, z3, if_neg z2, gI_n (by omega), p4, nI_1]
    have ec : aStp K c = aLeave c (aNext K c) := if_pos h13
    have hn := CFr.next p6 ht.1
    rw [ec] at hn
    refine ⟨?_, ?_, fun _ => Or.inr ⟨h1, ?_, Q, s + 1, ?_, p2, p3, ?_, by omega, fun k j1 j2 => ?_⟩, fun z => absurd (z.symm.trans h1) (by decide), fun z => absurd (z.symm.trans h1) (by decide), ?_⟩
    · unfold p_X0_leave
      rw [eu, eP, z3]
      exact ⟨hne, fun _ x => absurd x z2, fun x => absurd z1 x⟩
    · rw [es, gI_n (by omega), gI_h rfl rfl]
    · rw [es, gI_n (by omega), gI_h rfl rfl]
      rfl
    · rw [es]
      exact p1
    · rw [es, gI_h rfl rfl]
    · rw [es, gI_n (by omega), gI_n (by omega)]
      exact hn k j1 j2
    · rw [es]
      exact (rfr.rf.uI (show sA5 a _ _ from ⟨Nat.le_refl _, by omega, fun _ => by omega⟩)).uI (show sA5 a _ _ from ⟨Nat.le_refl _, by omega, fun _ => by omega⟩)
theorem co_begin {m L F r a q1 n3 q3 N f fr e : Nat} {H : Nat → Nat} {σ : zS} {K : aK} {g : Nat → Int32} (hw : wfK K L F H) (hra : r ≤ a ∧ a + 4 ≤ r + 25) (hq : q1 + 7 ≤ a ∨ a + 4 ≤ q1) (hq3 : q3 < a ∨ a + 4 ≤ q3) (h3 : fr + 4 ≤ n3) (h31 : n3 < 2 ^ 31) (hN : 400 < N) (hC : CK σ q1 K L F) (hf : f < F) (hg : ∀ i, i < K.2.2.2 f → σ.1 q3 (fr + i) = g i) (h : Cb m σ r a K (aBegin K f g) e) : p_X0_begin a q1 (nI f) n3 q3 (nI fr) N σ ∧ Cm m (s_X0_begin a q1 (nI f) n3 q3 (nI fr) N σ) r a K (aBegin K f g) e ∧ rfr (sA a) σ (s_X0_begin a q1 (nI f) n3 q3 (nI fr) N σ) := by
  obtain ⟨r1, r2, r3, r4⟩ := cls_begin_C (N := N) hw hq hq3 h3 h31 hN hC hf hg
  refine ⟨r1, ?_, r3⟩
  rcases h with ⟨h1, h2⟩ | ⟨h1, h2⟩
  · exact Or.inl ⟨h1, r2, by rw [r3.1]; exact h2⟩
  · exact Or.inr ⟨h1, r2.1, h2.fr r3 (fun q j z => by unfold sA at z; omega)⟩
