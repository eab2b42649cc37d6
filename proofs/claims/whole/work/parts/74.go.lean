/-! to the next CALL or RETURN -/
def wfI (K : aK) (L F : Nat) (H : Nat → Nat) (i : Nat) : Prop := match K.1 i with
  | 0 => i + 1 < L ∧ H (i + 1) = H i + 1
  | 1 => (i + 1 < L ∧ H (i + 1) = H i + 1) ∧ ∃ p, p < 4 ∧ K.2.1 i = nI p
  | 2 => i + 1 < L ∧ 2 ≤ H i ∧ H (i + 1) = H i - 1
  | 3 => i + 1 < L ∧ 2 ≤ H i ∧ H (i + 1) = H i - 1
  | 4 => i + 1 < L ∧ 2 ≤ H i ∧ H (i + 1) = H i - 1
  | 5 => i + 1 < L ∧ 2 ≤ H i ∧ H (i + 1) = H i - 1
  | 6 => i + 1 < L ∧ 2 ≤ H i ∧ H (i + 1) = H i - 1
  | 7 => i + 1 < L ∧ 1 ≤ H i ∧ H (i + 1) = H i
  | 8 => i + 1 < L ∧ ∃ f, f < F ∧ K.2.1 i = nI f ∧ K.2.2.2 f ≤ H i ∧ H (i + 1) = H i - K.2.2.2 f + 1
  | 9 => (i + 1 < L ∧ 2 ≤ H i ∧ H (i + 1) = H i - 2) ∧ ∃ p, i < p ∧ p < L ∧ K.2.1 i = nI p ∧ H p = H i - 2
  | 10 => (i + 1 < L ∧ 2 ≤ H i ∧ H (i + 1) = H i - 2) ∧ ∃ p, i < p ∧ p < L ∧ K.2.1 i = nI p ∧ H p = H i - 2
  | 11 => (i + 1 < L ∧ 2 ≤ H i ∧ H (i + 1) = H i - 2) ∧ ∃ p, i < p ∧ p < L ∧ K.2.1 i = nI p ∧ H p = H i - 2
  | 12 => ∃ p, i < p ∧ p < L ∧ K.2.1 i = nI p ∧ H p = H i
  | 13 => H i = 1
  | _ => False
def wfK (K : aK) (L F : Nat) (H : Nat → Nat) : Prop := L ≤ 400 ∧ F ≤ 6 ∧ (∀ f, f < F → K.2.2.1 f < L ∧ H (K.2.2.1 f) = 0 ∧ K.2.2.2 f ≤ 4) ∧ ∀ i, i < L → H i ≤ 28 ∧ wfI K L F H i
def aGo (K : aK) (v : Nat → Int32) : Nat → aR → aR
  | 0, s => s
  | n + 1, s => if K.1 s.1 = 8 ∨ K.1 s.1 = 13 then s else aGo K v n (aOne (K.1 s.1) (K.2.1 s.1) v s)
def tyR (L : Nat) (H : Nat → Nat) (b : Nat) (s : aR) : Prop := s.1 < L ∧ s.2.2 = b + H s.1
theorem ty_test {o : Nat} {x : Int32} {s : aR} {L b p : Nat} {H : Nat → Nat} (hi : s.1 + 1 < L ∧ 2 ≤ H s.1 ∧ H (s.1 + 1) = H s.1 - 2) (h1 : s.1 < p) (h2 : p < L) (h3 : x = nI p) (h4 : H p = H s.1 - 2) (hL : L ≤ 400) (ht : s.2.2 = b + H s.1) : tyR L H b (aTest o x s) ∧ s.1 < (aTest o x s).1 := by
  have e : (aTest o x s).1 = p ∨ (aTest o x s).1 = s.1 + 1 := by
    unfold aTest
    rw [h3, nI_clamp (by omega)]
    by_cases c : f_X9_holds (nI o) (s.2.1 (s.2.2 - 1 - 1)) (s.2.1 (s.2.2 - 1)) = 0
    · exact Or.inl (if_pos c)
    · exact Or.inr (if_neg c)
  have e2 : (aTest o x s).2.2 = s.2.2 - 1 - 1 := rfl
  unfold tyR
  rw [e2]
  rcases e with e | e <;> rw [e] <;> omega
theorem ty_one {K : aK} {L F b : Nat} {H : Nat → Nat} {v : Nat → Int32} {s : aR} (hw : wfK K L F H) (hb : b ≤ 1600) (ht : tyR L H b s) (h8 : ¬ (K.1 s.1 = 8 ∨ K.1 s.1 = 13)) : okI (K.1 s.1) (K.2.1 s.1) s.2.2 ∧ tyR L H b (aOne (K.1 s.1) (K.2.1 s.1) v s) ∧ s.1 < (aOne (K.1 s.1) (K.2.1 s.1) v s).1 := by
  obtain ⟨hL, -, -, hI⟩ := hw
  obtain ⟨t1, t2⟩ := ht
  obtain ⟨g1, g2⟩ := hI s.1 t1
  unfold wfI at g2
  generalize ho : K.1 s.1 = o at g2 h8
  generalize hx : K.2.1 s.1 = x at g2
  have hH := fun i (hi : i < L) => (hI i hi).1
  match o, g2, h8 with
  | 0, g2, _ =>
    have g3 : s.1 + 1 < L ∧ H (s.1 + 1) = H s.1 + 1 := g2
    have := hH _ g3.1
    exact ⟨show s.2.2 < 1680 by omega, ⟨g3.1, show s.2.2 + 1 = b + H (s.1 + 1) by omega⟩, Nat.lt_succ_self _⟩
  | 1, g2, _ =>
    have g3 : (s.1 + 1 < L ∧ H (s.1 + 1) = H s.1 + 1) ∧ ∃ p, p < 4 ∧ x = nI p := g2
    have := hH _ g3.1.1
    exact ⟨⟨show s.2.2 < 1680 by omega, g3.2⟩, ⟨g3.1.1, show s.2.2 + 1 = b + H (s.1 + 1) by omega⟩, Nat.lt_succ_self _⟩
  | 2, g2, _ =>
    have g3 : s.1 + 1 < L ∧ 2 ≤ H s.1 ∧ H (s.1 + 1) = H s.1 - 1 := g2
    exact ⟨⟨by omega, by omega⟩, ⟨g3.1, show s.2.2 - 1 - 1 + 1 = b + H (s.1 + 1) by omega⟩, Nat.lt_succ_self _⟩
  | 3, g2, _ =>
    have g3 : s.1 + 1 < L ∧ 2 ≤ H s.1 ∧ H (s.1 + 1) = H s.1 - 1 := g2
    exact ⟨⟨by omega, by omega⟩, ⟨g3.1, show s.2.2 - 1 - 1 + 1 = b + H (s.1 + 1) by omega⟩, Nat.lt_succ_self _⟩
  | 4, g2, _ =>
    have g3 : s.1 + 1 < L ∧ 2 ≤ H s.1 ∧ H (s.1 + 1) = H s.1 - 1 := g2
    exact ⟨⟨by omega, by omega⟩, ⟨g3.1, show s.2.2 - 1 - 1 + 1 = b + H (s.1 + 1) by omega⟩, Nat.lt_succ_self _⟩
  | 5, g2, _ =>
    have g3 : s.1 + 1 < L ∧ 2 ≤ H s.1 ∧ H (s.1 + 1) = H s.1 - 1 := g2
    exact ⟨⟨by omega, by omega⟩, ⟨g3.1, show s.2.2 - 1 - 1 + 1 = b + H (s.1 + 1) by omega⟩, Nat.lt_succ_self _⟩
  | 6, g2, _ =>
    have g3 : s.1 + 1 < L ∧ 2 ≤ H s.1 ∧ H (s.1 + 1) = H s.1 - 1 := g2
    exact ⟨⟨by omega, by omega⟩, ⟨g3.1, show s.2.2 - 1 - 1 + 1 = b + H (s.1 + 1) by omega⟩, Nat.lt_succ_self _⟩
  | 7, g2, _ =>
    have g3 : s.1 + 1 < L ∧ 1 ≤ H s.1 ∧ H (s.1 + 1) = H s.1 := g2
    exact ⟨⟨by omega, by omega⟩, ⟨g3.1, show s.2.2 - 1 + 1 = b + H (s.1 + 1) by omega⟩, Nat.lt_succ_self _⟩
  | 9, g2, _ =>
    obtain ⟨g3, p, p1, p2, p3, p4⟩ : (s.1 + 1 < L ∧ 2 ≤ H s.1 ∧ H (s.1 + 1) = H s.1 - 2) ∧ ∃ p, s.1 < p ∧ p < L ∧ x = nI p ∧ H p = H s.1 - 2 := g2
    exact ⟨⟨⟨by omega, by omega⟩, p, by omega, p3⟩, ty_test g3 p1 p2 p3 p4 hL t2⟩
  | 10, g2, _ =>
    obtain ⟨g3, p, p1, p2, p3, p4⟩ : (s.1 + 1 < L ∧ 2 ≤ H s.1 ∧ H (s.1 + 1) = H s.1 - 2) ∧ ∃ p, s.1 < p ∧ p < L ∧ x = nI p ∧ H p = H s.1 - 2 := g2
    exact ⟨⟨⟨by omega, by omega⟩, p, by omega, p3⟩, ty_test g3 p1 p2 p3 p4 hL t2⟩
  | 11, g2, _ =>
    obtain ⟨g3, p, p1, p2, p3, p4⟩ : (s.1 + 1 < L ∧ 2 ≤ H s.1 ∧ H (s.1 + 1) = H s.1 - 2) ∧ ∃ p, s.1 < p ∧ p < L ∧ x = nI p ∧ H p = H s.1 - 2 := g2
    exact ⟨⟨⟨by omega, by omega⟩, p, by omega, p3⟩, ty_test g3 p1 p2 p3 p4 hL t2⟩
  | 12, g2, _ =>
    obtain ⟨p, p1, p2, p3, p4⟩ : ∃ p, s.1 < p ∧ p < L ∧ x = nI p ∧ H p = H s.1 := g2
    refine ⟨⟨p, by omega, p3⟩, ?_⟩
    show ((x.toNatClampNeg) < L ∧ s.2.2 = b + H x.toNatClampNeg) ∧ s.1 < x.toNatClampNeg
    rw [p3, nI_clamp (by omega)]
    omega
  | 8, _, h8 => exact absurd (Or.inl rfl) h8
  | 13, _, h8 => exact absurd (Or.inr rfl) h8
theorem go_ty {K : aK} {L F b : Nat} {H : Nat → Nat} {v : Nat → Int32} (hw : wfK K L F H) (hb : b ≤ 1600) : ∀ (n : Nat) (s : aR), tyR L H b s → L ≤ n + s.1 → tyR L H b (aGo K v n s) ∧ (K.1 (aGo K v n s).1 = 8 ∨ K.1 (aGo K v n s).1 = 13) := by
  intro n
  induction n with
  | zero => intro s hs hn; exact absurd hs.1 (by omega)
  | succ n ih =>
    intro s hs hn
    rw [aGo]
    by_cases c : K.1 s.1 = 8 ∨ K.1 s.1 = 13
    · rw [if_pos c]
      exact ⟨hs, c⟩
    · rw [if_neg c]
      obtain ⟨q1, q2, q3⟩ := ty_one (v := v) hw hb hs c
      exact ih _ q2 (by omega)
theorem go_more {K : aK} {v : Nat → Int32} : ∀ (n m : Nat) (s : aR), (K.1 (aGo K v n s).1 = 8 ∨ K.1 (aGo K v n s).1 = 13) → aGo K v (n + m) s = aGo K v n s := by
  intro n
  induction n with
  | zero =>
    intro m s h
    cases m with
    | zero => rfl
    | succ m =>
      rw [Nat.zero_add, aGo, aGo]
      exact if_pos h
  | succ n ih =>
    intro m s h
    rw [show n + 1 + m = (n + m) + 1 by omega, aGo, aGo]
    rw [aGo] at h
    by_cases c : K.1 s.1 = 8 ∨ K.1 s.1 = 13
    · rw [if_pos c, if_pos c]
    · rw [if_neg c] at h
      rw [if_neg c, if_neg c]
      exact ih m _ h
/-! the class -/
def CK (σ : zS) (q1 : Nat) (K : aK) (L F : Nat) : Prop := (∀ i, i < L → σ.1 (q1 + 5) i = nI (cmap (K.1 i)) ∧ σ.1 (q1 + 6) i = K.2.1 i) ∧ ∀ f, f < F → σ.1 (q1 + 1) f = nI (K.2.2.1 f) ∧ σ.1 (q1 + 2) f = nI (K.2.2.2 f)
theorem CK.fr {S : Nat → Nat → Prop} {σ σ1 : zS} {q1 L F : Nat} {K : aK} (h : CK σ q1 K L F) (hf : rfr S σ σ1) (hS : ∀ q j, S q j → q < q1 ∨ q1 + 7 ≤ q) : CK σ1 q1 K L F := by
  refine ⟨fun i hi => ?_, fun f hf1 => ?_⟩
  · rw [hf.2 _ _ (fun z => by have := hS _ _ z; omega), hf.2 _ _ (fun z => by have := hS _ _ z; omega)]
    exact h.1 i hi
  · rw [hf.2 _ _ (fun z => by have := hS _ _ z; omega), hf.2 _ _ (fun z => by have := hS _ _ z; omega)]
    exact h.2 f hf1
theorem cmap_12 {o : Nat} (h : nI (cmap o) = 12) : o = 8 := by
  match o, h with
  | 8, _ => rfl
  | 0, h => exact absurd h (by decide)
  | 1, h => exact absurd h (by decide)
  | 2, h => exact absurd h (by decide)
  | 3, h => exact absurd h (by decide)
  | 4, h => exact absurd h (by decide)
  | 5, h => exact absurd h (by decide)
  | 6, h => exact absurd h (by decide)
  | 7, h => exact absurd h (by decide)
  | 9, h => exact absurd h (by decide)
  | 10, h => exact absurd h (by decide)
  | 11, h => exact absurd h (by decide)
  | 12, h => exact absurd h (by decide)
  | n + 13, h => exact absurd (show nI 13 = 12 from h) (by decide)
theorem cmap_13 {o : Nat} (ho : o ≤ 13) (h : nI (cmap o) = 13) : o = 13 := by
  match o, ho, h with
  | 13, _, _ => rfl
  | 0, _, h => exact absurd h (by decide)
  | 1, _, h => exact absurd h (by decide)
  | 2, _, h => exact absurd h (by decide)
  | 3, _, h => exact absurd h (by decide)
  | 4, _, h => exact absurd h (by decide)
  | 5, _, h => exact absurd h (by decide)
  | 6, _, h => exact absurd h (by decide)
  | 7, _, h => exact absurd h (by decide)
  | 8, _, h => exact absurd h (by decide)
  | 9, _, h => exact absurd h (by decide)
  | 10, _, h => exact absurd h (by decide)
  | 11, _, h => exact absurd h (by decide)
  | 12, _, h => exact absurd h (by decide)
  | n + 14, ho, _ => exact absurd ho (by omega)
theorem wfI_le {K : aK} {L F i : Nat} {H : Nat → Nat} (h : wfI K L F H i) : K.1 i ≤ 13 := by
  unfold wfI at h
  generalize K.1 i = o at h
  match o, h with
  | 0, _ => decide
  | 1, _ => decide
  | 2, _ => decide
  | 3, _ => decide
  | 4, _ => decide
  | 5, _ => decide
  | 6, _ => decide
  | 7, _ => decide
  | 8, _ => decide
  | 9, _ => decide
  | 10, _ => decide
  | 11, _ => decide
  | 12, _ => decide
  | 13, _ => decide
theorem sC_q {a q1 : Nat} (h : q1 + 7 ≤ a ∨ a + 4 ≤ q1) : ∀ q j, sC a q j → q < q1 ∨ q1 + 7 ≤ q := by
  intro q j z
  unfold sC at z
  omega
theorem cls_go {K : aK} {L F b a q1 d N : Nat} {H : Nat → Nat} {v : Nat → Int32} (hw : wfK K L F H) (hb : b ≤ 1600) (hd : 1 ≤ d ∧ d ≤ 60) (hq : q1 + 7 ≤ a ∨ a + 4 ≤ q1) : ∀ (n k : Nat) (s : aR) (σ : zS), tyR L H b s → L ≤ n + s.1 → n + k ≤ 400 → CK σ q1 K L F → CR σ a d v s → ∀ m, n < m → q_X0_reach a q1 N m (nI k) σ ∧ (l_X0_reach a q1 N m (nI k) σ).1 = nI (cmap (K.1 (aGo K v n s).1)) ∧ CR (l_X0_reach a q1 N m (nI k) σ).2 a d v (aGo K v n s) ∧ rfr (sC a) σ (l_X0_reach a q1 N m (nI k) σ).2 := by
  intro n
  induction n with
  | zero => intro k s σ hs hn; exact absurd hs.1 (by omega)
  | succ n ih =>
    intro k s σ hs hn hk hC hR m hm
    obtain ⟨m, rfl⟩ : ∃ z, m = z + 1 := ⟨m - 1, by omega⟩
    obtain ⟨e1, e2⟩ := hC.1 s.1 hs.1
    have hL := hw.1
    have hpc : σ.1 a 1 = nI s.1 := hR.2.1
    have f1 : f_X8_at 400 (q1 + 5) (σ.1 a 1) σ = nI (cmap (K.1 s.1)) := by
      rw [hpc, at_i (by have := hs.1; omega) (by decide), e1]
    have f2 : f_X8_at 400 (q1 + 6) (σ.1 a 1) σ = K.2.1 s.1 := by
      rw [hpc, at_i (by have := hs.1; omega) (by decide), e2]
    have k0 : ¬ (400 : Int32) ≤ nI k := nI_ge (a := k) (b := 400) (by omega) (by decide)
    rw [q_X0_reach, l_X0_reach, aGo, f1, f2, if_neg k0]
    by_cases c : K.1 s.1 = 8 ∨ K.1 s.1 = 13
    · rw [if_pos c]
      rcases c with c | c
      · rw [c, if_pos (show nI (cmap 8) = 12 from rfl)]
        exact ⟨fun _ => ⟨at_p (by decide), fun z => absurd rfl z⟩, rfl, hR, rfr.rf⟩
      · rw [c, if_neg (show ¬ nI (cmap 13) = 12 by decide), if_pos (show nI (cmap 13) = 13 from rfl)]
        exact ⟨fun _ => ⟨at_p (by decide), fun _ z => absurd rfl z⟩, rfl, hR, rfr.rf⟩
    · rw [if_neg c]
      have c1 : ¬ nI (cmap (K.1 s.1)) = 12 := fun z => c (Or.inl (cmap_12 z))
      have c2 : ¬ nI (cmap (K.1 s.1)) = 13 := fun z => c (Or.inr (cmap_13 (wfI_le (hw.2.2.2 s.1 hs.1).2) z))
      rw [if_neg c1, if_neg c2]
      obtain ⟨t1, t2, t3⟩ := ty_one (v := v) hw hb hs c
      have hu : u_X0_reach_h0_1 a q1 N (nI k) σ = zuI σ a 1 (nI (s.1 + 1)) := by
        unfold u_X0_reach_h0_1
        rw [hpc, nI_1]
      have j1 := cr_jump (pc1 := s.1 + 1) (pc := s.1) (st := s.2.1) (h := s.2.2) hR
      have o1 := cr_one (x := K.2.1 s.1) hd j1.1 t1
      have hu2 : u_X0_reach_h0_2 a q1 N (nI k) σ = s_X0_compute a (nI (cmap (K.1 s.1))) (K.2.1 s.1) (zuI σ a 1 (nI (s.1 + 1))) := by
        unfold u_X0_reach_h0_2
        rw [f1, f2, hu]
      rw [hu2, hu, nI_1]
      have fr := j1.2.tr o1.2.2
      obtain ⟨r1, r2, r3, r4⟩ := ih (k + 1) _ _ t2 (by omega) (by omega) (hC.fr fr (sC_q hq)) o1.2.1 m (by omega)
      exact ⟨fun _ => ⟨at_p (by decide), fun _ _ => ⟨at_p (by decide), o1.1, r1⟩⟩, r2, r3, fr.tr r4⟩
theorem cls_reach {K : aK} {L F b a q1 d N : Nat} {H : Nat → Nat} {v : Nat → Int32} {s : aR} {σ : zS} (hw : wfK K L F H) (hb : b ≤ 1600) (hd : 1 ≤ d ∧ d ≤ 60) (hq : q1 + 7 ≤ a ∨ a + 4 ≤ q1) (hN : 400 < N) (hs : tyR L H b s) (hC : CK σ q1 K L F) (hR : CR σ a d v s) (hn : σ.2 a 4 = 1000001) : p_X0_reach a q1 N σ ∧ (r_X0_reach a q1 N σ).1 = nI (cmap (K.1 (aGo K v 400 s).1)) ∧ CR (r_X0_reach a q1 N σ).2 a d v (aGo K v 400 s) ∧ rfr (sC a) σ (r_X0_reach a q1 N σ).2 := by
  have q := cls_go (N := N) hw hb hd hq 400 0 s σ hs (by have := hw.1; omega) (by omega) hC hR N hN
  have z1 : ¬ (zlay (1000001 - 1)).1 = 20 := by decide
  have z2 : (Int32.ofNat (zlay (1000001 - 1)).2) ≤ 0 := by decide
  unfold p_X0_reach r_X0_reach
  rw [hn, if_neg z1, if_pos z2]
  exact ⟨⟨by decide, fun z => absurd z z1, fun _ => ⟨rfl, fun _ => q.1, fun z => absurd z2 z⟩⟩, q.2⟩
/-! the reference -/
def MK (τ : zS) (b : Nat) (K : aK) (L F : Nat) : Prop := b < 2 ∧ τ.1 468 16 = nI b ∧ (∀ i, i < L → τ.1 484 (800 * b + 2 * i) = nI (K.1 i) ∧ τ.1 484 (800 * b + 2 * i + 1) = K.2.1 i) ∧ ∀ f, f < F → τ.1 480 (6 * b + f) = nI (K.2.2.1 f) ∧ τ.1 481 (6 * b + f) = nI (K.2.2.2 f)
theorem MK.fr {S : Nat → Nat → Prop} {τ τ1 : zS} {b L F : Nat} {K : aK} (h : MK τ b K L F) (hf : rfr S τ τ1) (hS : ∀ q j, S q j → (q = 468 ∧ ¬ j = 16) ∨ (¬ q = 468 ∧ ¬ q = 480 ∧ ¬ q = 481 ∧ ¬ q = 484)) : MK τ1 b K L F := by
  refine ⟨h.1, ?_, fun i hi => ?_, fun f hf1 => ?_⟩
  · rw [hf.2 _ _ (fun z => by have := hS _ _ z; omega)]
    exact h.2.1
  · rw [hf.2 _ _ (fun z => by have := hS _ _ z; omega), hf.2 _ _ (fun z => by have := hS _ _ z; omega)]
    exact h.2.2.1 i hi
  · rw [hf.2 _ _ (fun z => by have := hS _ _ z; omega), hf.2 _ _ (fun z => by have := hS _ _ z; omega)]
    exact h.2.2.2 f hf1
def sG (t d : Nat) (q j : Nat) : Prop := sM t d q j ∨ (q = 468 ∧ (j = 41 ∨ j = 42)) ∨ q = 492
theorem sM_G {t d q j : Nat} (h : sM t d q j) : sG t d q j := Or.inl h
theorem sG_K {t d q j : Nat} (h : sG t d q j) : (q = 468 ∧ ¬ j = 16) ∨ (¬ q = 468 ∧ ¬ q = 480 ∧ ¬ q = 481 ∧ ¬ q = 484) := by
  unfold sG sM at h
  omega
/-- the arguments of a call -/
theorem ref_args {t d N : Nat} {v : Nat → Int32} (ht : t ≤ 4) {a2 a3 a4 a5 : Int32} : ∀ (k pc h : Nat) (st : Nat → Int32) (τ : zS), k ≤ 4 → k ≤ h → h ≤ 2440 → MR τ t d v (pc, st, h) → ∀ m, k < m → q_X9_goOn N m 1 (nI t) a2 a3 a4 a5 (nI k - 1) τ ∧ (l_X9_goOn N m 1 (nI t) a2 a3 a4 a5 (nI k - 1) τ).1 = 1 ∧ MR (l_X9_goOn N m 1 (nI t) a2 a3 a4 a5 (nI k - 1) τ).2 t d v (pc, st, h - k) ∧ (∀ i, i < k → (l_X9_goOn N m 1 (nI t) a2 a3 a4 a5 (nI k - 1) τ).2.1 492 i = st (h - k + i)) ∧ (∀ i, k ≤ i → (l_X9_goOn N m 1 (nI t) a2 a3 a4 a5 (nI k - 1) τ).2.1 492 i = τ.1 492 i) ∧ rfr (sG t d) τ (l_X9_goOn N m 1 (nI t) a2 a3 a4 a5 (nI k - 1) τ).2 ∧ (l_X9_goOn N m 1 (nI t) a2 a3 a4 a5 (nI k - 1) τ).2.1 468 = τ.1 468 := by
  intro k
  induction k with
  | zero =>
    intro pc h st τ _ _ _ hm m hk
    obtain ⟨m, rfl⟩ : ∃ z, m = z + 1 := ⟨m - 1, by omega⟩
    have c : nI 0 - 1 < 0 := by decide
    rw [q_X9_goOn, l_X9_goOn, if_pos c]
    exact ⟨fun z => absurd c z, rfl, hm, fun i hi => absurd hi (by omega), fun _ _ => rfl, rfr.rf, rfl⟩
  | succ k ih =>
    intro pc h st τ h4 h5 h6 hm m hk
    obtain ⟨m, rfl⟩ : ∃ z, m = z + 1 := ⟨m - 1, by omega⟩
    have e : nI (k + 1) - 1 = nI k := nI_pred k
    have c : ¬ nI k < 0 := nI_pos (by omega)
    obtain ⟨a1, a2', a3', a4'⟩ := mr_take ht hm (show 1 ≤ h by omega) h6
    have eu : u_X9_goOn_h1_2 N (nI t) a2 a3 a4 a5 (nI k) τ = zuI (r_X9_take (nI t) τ).2 492 k (st (h - 1)) := by
      unfold u_X9_goOn_h1_2 u_X9_goOn_h1_1
      rw [nI_clamp (by omega), a2']
    have hm2 : MR (zuI (r_X9_take (nI t) τ).2 492 k (st (h - 1))) t d v (pc, st, h - 1) := by
      obtain ⟨b1, b2, b3, b4⟩ := a3'
      refine ⟨?_, ?_, fun j hj => ?_, fun i hi => ?_⟩
      · rw [gI_n (by omega)]; exact b1
      · rw [gI_n (by omega)]; exact b2
      · rw [gI_n (by omega)]; exact b3 j hj
      · rw [gI_n (by omega)]; exact b4 i hi
    have hf2 : rfr (sG t d) τ (zuI (r_X9_take (nI t) τ).2 492 k (st (h - 1))) := (a4'.wk (fun q j z => sM_G z)).uI (Or.inr (Or.inr rfl))
    rw [q_X9_goOn, l_X9_goOn, e, if_neg c, eu, show nI k + (-1) = nI k - 1 by rw [Int32.sub_eq_add_neg]]
    obtain ⟨r1, r2, r3, r4, r5, r6, r7⟩ := ih pc (h - 1) st _ (by omega) (by omega) (by omega) hm2 m (by omega)
    refine ⟨fun _ => ⟨a1, vp_in_nI (by omega) (by decide), r1⟩, r2, ?_, fun i hi => ?_, fun i hi => ?_, hf2.tr r6, ?_⟩
    · rw [show h - (k + 1) = h - 1 - k by omega]
      exact r3
    · by_cases c1 : i < k
      · rw [r4 i c1]
        congr 1
        omega
      · rw [r5 i (by omega), gI_h rfl (by omega)]
        congr 1
        omega
    · rw [r5 i (by omega), gI_n (by omega)]
      have := a4'.2 492 i (fun z => by unfold sM at z; omega)
      exact this
    · rw [r7]
      funext j
      rw [gI_n (by omega)]
      exact a4'.2 468 j (fun z => by unfold sM at z; omega)
def aAfter (K : aK) (F : Nat) (τ : zS) (t d : Nat) (v : Nat → Int32) (s : aR) (r : Int32 × zS) : Prop :=
  (K.1 s.1 = 13 → r.1 = 0 ∧ MR r.2 t d v (s.1 + 1, s.2.1, s.2.2 - 1) ∧ r.2.1 468 42 = s.2.1 (s.2.2 - 1)) ∧ (K.1 s.1 = 8 → ∃ f, f < F ∧ K.2.1 s.1 = nI f ∧ r.1 = 1 ∧ MR r.2 t d v (s.1 + 1, s.2.1, s.2.2 - K.2.2.2 f) ∧ r.2.1 468 41 = nI f ∧ ∀ i, i < K.2.2.2 f → r.2.1 492 i = s.2.1 (s.2.2 - K.2.2.2 f + i)) ∧ rfr (sG t d) τ r.2
theorem ref_go {K : aK} {L F b B t d N : Nat} {H : Nat → Nat} {v : Nat → Int32} (hw : wfK K L F H) (hb : b ≤ 1600) (hd : 1 ≤ d ∧ d ≤ 60) (ht : t ≤ 4) : ∀ (n : Nat) (s : aR) (τ : zS), tyR L H b s → L ≤ n + s.1 → MK τ B K L F → MR τ t d v s → ∀ m, n + 5 < m → q_X9_goOn N m 0 (nI t) (nI d) 0 0 0 0 τ ∧ aAfter K F τ t d v (aGo K v n s) (l_X9_goOn N m 0 (nI t) (nI d) 0 0 0 0 τ) := by
  intro n
  induction n with
  | zero => intro s τ hs hn; exact absurd hs.1 (by omega)
  | succ n ih =>
    intro s τ hs hn hK hR m hm
    obtain ⟨m, rfl⟩ : ∃ z, m = z + 1 := ⟨m - 1, by omega⟩
    have hL := hw.1
    have hp := hs.1
    obtain ⟨B2, k1, k2, k3⟩ := hK
    obtain ⟨e1, e2⟩ := k2 s.1 hp
    have hpc : τ.1 469 (238 + 2801 * t + 6 * (d - 1)) = nI s.1 := hR.1
    have ePl : (800 * nI B) + (2 * nI s.1) = nI (800 * B + 2 * s.1) := by rw [(show (800 : Int32) = nI 800 from rfl), (show (2 : Int32) = nI 2 from rfl), pk_mul, pk_mul, nI_add]
    have j1 := mr_jump (pc1 := s.1 + 1) (pc := s.1) (st := s.2.1) (h := s.2.2) ht hd hR
    have hu : u_X9_goOn_h0_1 N (nI t) (nI d) 0 0 0 0 τ = zuI τ 469 (238 + 2801 * t + 6 * (d - 1)) (nI (s.1 + 1)) := by
      unfold u_X9_goOn_h0_1
      rw [fr_1 hd.1, nI_clamp (by omega), hpc, nI_1]
    have ex : (τ.1 469 (f_X9_atFrame (nI t) (nI d) 1).toNatClampNeg) = nI s.1 := by rw [fr_1 hd.1, nI_clamp (by omega), hpc]
    have c1 : (τ.1 484 ((800 * (τ.1 468 16)) + (2 * (τ.1 469 (f_X9_atFrame (nI t) (nI d) 1).toNatClampNeg))).toNatClampNeg) = nI (K.1 s.1) := by rw [ex, k1, ePl, nI_clamp (by omega), e1]
    have c2 : (τ.1 484 (((800 * (τ.1 468 16)) + (2 * (τ.1 469 (f_X9_atFrame (nI t) (nI d) 1).toNatClampNeg))) + 1).toNatClampNeg) = K.2.1 s.1 := by rw [ex, k1, ePl, nI_1, nI_clamp (by omega), e2]
    have p1 : vp_in (f_X9_atFrame (nI t) (nI d) 1) 14241 := by
      rw [fr_1 hd.1]
      exact vp_in_nI (by omega) (by decide)
    have p2 : vp_in ((800 * (τ.1 468 16)) + (2 * (τ.1 469 (f_X9_atFrame (nI t) (nI d) 1).toNatClampNeg))) 1600 := by
      rw [ex, k1, ePl]
      exact vp_in_nI (by omega) (by decide)
    have p3 : vp_in (((800 * (τ.1 468 16)) + (2 * (τ.1 469 (f_X9_atFrame (nI t) (nI d) 1).toNatClampNeg))) + 1) 1600 := by
      rw [ex, k1, ePl, nI_1]
      exact vp_in_nI (by omega) (by decide)
    have o13 := wfI_le (hw.2.2.2 s.1 hp).2
    rw [q_X9_goOn, l_X9_goOn, aGo]
    by_cases c : K.1 s.1 = 8 ∨ K.1 s.1 = 13
    · rw [if_pos c]
      rcases c with c | c
      · -- a CALL
        have gI := (hw.2.2.2 s.1 hp).2
        unfold wfI at gI
        rw [c] at gI
        obtain ⟨-, f, f1, f2, f3, f4⟩ := gI
        have n13 : ¬ nI (K.1 s.1) = 13 := by rw [c]; decide
        have n8 : nI (K.1 s.1) = 8 := by rw [c]; rfl
        have hu3 : u_X9_goOn_h0_3 N (nI t) (nI d) 0 0 0 0 τ = zuI (zuI τ 469 (238 + 2801 * t + 6 * (d - 1)) (nI (s.1 + 1))) 468 41 (nI f) := by
          unfold u_X9_goOn_h0_3
          rw [hu, c2, f2]
        have hm3 : MR (zuI (zuI τ 469 (238 + 2801 * t + 6 * (d - 1)) (nI (s.1 + 1))) 468 41 (nI f)) t d v (s.1 + 1, s.2.1, s.2.2) := by
          obtain ⟨b1, b2, b3, b4⟩ := j1.1
          refine ⟨?_, ?_, fun j hj => ?_, fun i hi => ?_⟩
          · rw [gI_n (by omega)]; exact b1
          · rw [gI_n (by omega)]; exact b2
          · rw [gI_n (by omega)]; exact b3 j hj
          · rw [gI_n (by omega)]; exact b4 i hi
        have e6 : (6 * nI B) + nI f = nI (6 * B + f) := by rw [(show (6 : Int32) = nI 6 from rfl), pk_mul, nI_add]
        have hF := hw.2.1
        have f5 := (hw.2.2.1 f f1).2.2
        have eT : (zuI (zuI τ 469 (238 + 2801 * t + 6 * (d - 1)) (nI (s.1 + 1))) 468 41 (nI f)).1 481 (nI (6 * B + f)).toNatClampNeg = nI (K.2.2.2 f) := by
          rw [nI_clamp (by omega), gI_n (by omega), gI_n (by omega)]
          exact (k3 f f1).2
        have eB : (zuI (zuI τ 469 (238 + 2801 * t + 6 * (d - 1)) (nI (s.1 + 1))) 468 41 (nI f)).1 468 16 = nI B := by
          rw [gI_n (by omega), gI_n (by omega)]
          exact k1
        have hty := hs.2
        have hH := (hw.2.2.2 s.1 hp).1
        rw [hu3, c1, c2, if_neg n13, if_pos n8, f2, eB, e6, eT]
        obtain ⟨r1, r2, r3, r4, r5, r6, r7⟩ := ref_args (N := N) (a2 := nI d) (a3 := 800 * τ.1 468 16 + 2 * τ.1 469 (f_X9_atFrame (nI t) (nI d) 1).toNatClampNeg) (a4 := nI (K.1 s.1)) (a5 := nI f) ht (K.2.2.2 f) (s.1 + 1) s.2.2 s.2.1 _ f5 (by omega) (by omega) hm3 m (by omega)
        refine ⟨⟨p1, p2, p3, fun _ => ⟨fun z => absurd n8 z, fun _ => ⟨vp_in_nI (by omega) (by decide), r1⟩⟩, fun z => absurd z n13⟩, fun z => absurd (c.symm.trans z) (by decide), fun _ => ⟨f, f1, f2, r2, r3, ?_, r4⟩, ?_⟩
        · rw [r7]
          exact gI_h rfl rfl
        · exact (((j1.2.wk (fun q j z => sM_G z)).uI (Or.inr (Or.inl ⟨rfl, Or.inl rfl⟩))).tr r6)
      · -- a RETURN
        have n13 : nI (K.1 s.1) = 13 := by rw [c]; rfl
        have gI := (hw.2.2.2 s.1 hp).2
        unfold wfI at gI
        rw [c] at gI
        have hty := hs.2
        have gI : H s.1 = 1 := gI
        obtain ⟨a1, a2, a3, a4⟩ := mr_take ht j1.1 (show 1 ≤ s.2.2 by omega) (show s.2.2 ≤ 2440 by omega)
        have hu5 : u_X9_goOn_h0_5 N (nI t) (nI d) 0 0 0 0 τ = zuI (r_X9_take (nI t) (zuI τ 469 (238 + 2801 * t + 6 * (d - 1)) (nI (s.1 + 1)))).2 468 42 (s.2.1 (s.2.2 - 1)) := by
          unfold u_X9_goOn_h0_5 u_X9_goOn_h0_4
          rw [hu, a2]
        rw [c1, if_pos n13, hu5, hu]
        refine ⟨⟨p1, p2, p3, fun z => absurd n13 z, fun _ => a1⟩, fun _ => ⟨rfl, ?_, gI_h rfl rfl⟩, fun z => absurd (c.symm.trans z) (by decide), ?_⟩
        · obtain ⟨b1, b2, b3, b4⟩ := a3
          refine ⟨?_, ?_, fun j hj => ?_, fun i hi => ?_⟩
          · show (zuI _ 468 42 _).1 _ _ = _
            rw [gI_n (by omega)]; exact b1
          · show (zuI _ 468 42 _).1 _ _ = _
            rw [gI_n (by omega)]; exact b2
          · show (zuI _ 468 42 _).1 _ _ = _
            rw [gI_n (by omega)]; exact b3 j hj
          · show (zuI _ 468 42 _).1 _ _ = _
            rw [gI_n (by omega)]; exact b4 i hi
        · exact ((j1.2.tr a4).wk (fun q j z => sM_G z)).uI (Or.inr (Or.inl ⟨rfl, Or.inr rfl⟩))
    · rw [if_neg c]
      have n13 : ¬ nI (K.1 s.1) = 13 := fun z => c (Or.inr ((nI_eq (by omega) (by decide)).mp (show nI (K.1 s.1) = nI 13 from z)))
      have n8 : ¬ nI (K.1 s.1) = 8 := fun z => c (Or.inl ((nI_eq (by omega) (by decide)).mp (show nI (K.1 s.1) = nI 8 from z)))
      obtain ⟨t1, t2, t3⟩ := ty_one (v := v) hw hb hs c
      have o1 := mr_one (x := K.2.1 s.1) ht hd j1.1 t1
      have hu2 : u_X9_goOn_h0_2 N (nI t) (nI d) 0 0 0 0 τ = s_X9_doStep (nI t) (nI d) (nI (K.1 s.1)) (K.2.1 s.1) (zuI τ 469 (238 + 2801 * t + 6 * (d - 1)) (nI (s.1 + 1))) := by
        unfold u_X9_goOn_h0_2
        rw [c1, c2, hu]
      have fr := (j1.2.tr o1.2.2).wk (fun q j z => sM_G z)
      rw [hu2, hu, c1, c2, if_neg n13, if_neg n8]
      obtain ⟨r1, r2, r3, r4⟩ := ih _ _ t2 (by omega) (MK.fr ⟨B2, k1, k2, k3⟩ fr (fun q j z => sG_K z)) o1.2.1 m (by omega)
      exact ⟨⟨p1, p2, p3, fun _ => ⟨fun _ => ⟨o1.1, r1⟩, fun z => absurd z n8⟩, fun z => absurd z n13⟩, r2, r3, fr.tr r4⟩
