/-! words and numbers on both sides -/
section IS
variable {nb N : Nat} {tx : Nat → Nat} {σ σ1 σ2 τ τ1 τ2 : zS}
theorem cl_skip {e : Nat} : ∀ (m p : Nat) (σ : zS), p + m = e → Sk tx nb leB p e → TC nb tx σ → σ.1 3 4 = nI p → ∀ z, m < z → q_X6_skipWord N z σ ∧ rfr (fun q j => q = 3 ∧ j = 4) σ (l_X6_skipWord N z σ) ∧ (l_X6_skipWord N z σ).1 3 4 = nI e := by
  intro m
  induction m with
  | zero =>
    intro p σ hp hs h h3 z hz
    obtain rfl : p = e := by omega
    obtain ⟨z, rfl⟩ : ∃ q, z = q + 1 := ⟨z - 1, by omega⟩
    have hn := h.2.2.1
    have hp1 := hs.2.1
    have el : l_X6_skipWord N (z + 1) σ = σ := by
      rw [l_X6_skipWord, h3, h.2.1]
      by_cases c : p < nb
      · rw [if_neg (nI_ge c (by omega)), h.at c, (kn (h.2.2.2 p c).1).2.1, if_pos (one0.mpr (hs.2.2.2 c))]
      · rw [if_pos (nI_le (by omega) (by omega))]
    rw [el]
    refine ⟨?_, rfr.rf, h3⟩
    rw [q_X6_skipWord, h3, h.2.1]
    refine fun y1 => ⟨h.po.1, h.pat, fun y2 => ?_⟩
    have c : p < nb := Classical.byContradiction fun w => y1 (nI_le (by omega) (by omega))
    rw [h.at c, (kn (h.2.2.2 p c).1).2.1] at y2
    exact absurd (one0.mpr (hs.2.2.2 c)) y2
  | succ m ih =>
    intro p σ hp hs h h3 z hz
    obtain ⟨z, rfl⟩ : ∃ q, z = q + 1 := ⟨z - 1, by omega⟩
    have hn := h.2.2.1
    have c : p < nb := by have := hs.2.1; omega
    have cb := hs.2.2.1 p (Nat.le_refl _) (by omega)
    have n1 : ¬ nI nb ≤ nI p := nI_ge c (by omega)
    have n2 : ¬ (if leB (tx p) then (1 : Int32) else 0) = 0 := fun y => one0.mp y cb
    have hf : rfr (fun q j => q = 3 ∧ j = 4) σ (zuI σ 3 4 (nI (p + 1))) := rfr.rf.uI (show (fun q j => q = 3 ∧ j = 4) 3 4 from ⟨rfl, rfl⟩)
    have eu : u_X6_skipWord_h0_1 N σ = zuI σ 3 4 (nI (p + 1)) := by
      unfold u_X6_skipWord_h0_1
      rw [h3, nI_1]
    obtain ⟨i1, i3, i4⟩ := ih (p + 1) (zuI σ 3 4 (nI (p + 1))) (by omega) ⟨by omega, hs.2.1, fun i j1 j2 => hs.2.2.1 i (by omega) j2, hs.2.2.2⟩ (h.fr (hf.wk (fun q j y => ⟨y.1, by omega, by omega⟩))) (gI_h rfl rfl) z (by omega)
    rw [q_X6_skipWord, l_X6_skipWord, h3, h.2.1, if_neg n1, h.at c, (kn (h.2.2.2 p c).1).2.1, if_neg n2, eu]
    exact ⟨fun _ => ⟨h.po.1, h.pat, fun _ => i1⟩, hf.tr i3, i4⟩
theorem rf_skip {e : Nat} : ∀ (m p : Nat) (τ : zS), p + m = e → Sk tx nb leB p e → TM nb tx τ → τ.1 468 20 = nI p → ∀ z, ∃ τ1, l_X9_scanWord N (z + m + 1) 0 0 0 0 τ = l_X9_scanWord N z 1 0 0 0 τ1 ∧ (q_X9_scanWord N z 1 0 0 0 τ1 → q_X9_scanWord N (z + m + 1) 0 0 0 0 τ) ∧ rfr (fun q j => q = 468 ∧ (j = 20 ∨ j = 24)) τ τ1 ∧ τ1.1 468 20 = nI e ∧ τ1.1 468 24 = -1 := by
  intro m
  induction m with
  | zero =>
    intro p τ hp hs h h3 z
    obtain rfl : p = e := by omega
    have e0 : f_X9_isLetter (f_X9_signAt (nI p) τ) = 0 := by
      by_cases c : p < nb
      · rw [(h.sg hs.2.1).2.2.1 c, (kn (h.2.2.1 p c).1).2.2.2.1]; exact one0.mpr (hs.2.2.2 c)
      · rw [(h.sg hs.2.1).2.2.2 (by have := hs.2.1; omega)]; decide
    refine ⟨zuI τ 468 24 (-1), ?_, fun y => ?_, rfr.rf.uI (show (fun q j => q = 468 ∧ (j = 20 ∨ j = 24)) 468 24 from ⟨rfl, Or.inr rfl⟩), (gI_n (by omega)).trans h3, gI_h rfl rfl⟩
    · rw [l_X9_scanWord, h3, e0, if_pos rfl]
      rfl
    · rw [q_X9_scanWord, h3, e0]
      exact ⟨(h.sg hs.2.1).1, fun _ => y, fun y1 => absurd rfl y1⟩
  | succ m ih =>
    intro p τ hp hs h h3 z
    have hn := h.2.1
    have c : p < nb := by have := hs.2.1; omega
    have cb := hs.2.2.1 p (Nat.le_refl _) (by omega)
    have n2 : ¬ f_X9_isLetter (f_X9_signAt (nI p) τ) = 0 := by
      rw [(h.sg (by omega)).2.2.1 c, (kn (h.2.2.1 p c).1).2.2.2.1]
      exact fun y => one0.mp y cb
    have hf : rfr (fun q j => q = 468 ∧ (j = 20 ∨ j = 24)) τ (zuI τ 468 20 (nI (p + 1))) := rfr.rf.uI (show (fun q j => q = 468 ∧ (j = 20 ∨ j = 24)) 468 20 from ⟨rfl, Or.inl rfl⟩)
    have eu : u_X9_scanWord_h0_2 N 0 0 0 τ = zuI τ 468 20 (nI (p + 1)) := by
      unfold u_X9_scanWord_h0_2
      rw [h3, nI_1]
    obtain ⟨τ1, i1, i2, i3, i4⟩ := ih (p + 1) (zuI τ 468 20 (nI (p + 1))) (by omega) ⟨by omega, hs.2.1, fun i j1 j2 => hs.2.2.1 i (by omega) j2, hs.2.2.2⟩ (h.fr (hf.wk (fun q j y => ⟨y.1, by omega, by omega⟩))) (gI_h rfl rfl) z
    refine ⟨τ1, ?_, fun y => ?_, hf.tr i3, i4⟩
    · rw [show z + (m + 1) + 1 = (z + m + 1) + 1 by omega, l_X9_scanWord, h3, if_neg n2, eu, i1]
    · rw [show z + (m + 1) + 1 = (z + m + 1) + 1 by omega, q_X9_scanWord, h3, eu]
      exact ⟨(h.sg (by omega)).1, fun y1 => absurd y1 n2, fun _ => i2 y⟩
/-- numbers: the class stops at 10000, the reference at the first above 9999 -/
def nRl (v w : Nat) : Prop := (v ≤ 9999 ∧ w = v) ∨ (v = 10000 ∧ 9999 < w ∧ w < 100000)
theorem pr_num {e : Nat} : ∀ (m p v w : Nat) (σ τ : zS), p + m = e → Sk tx nb diB p e → TC nb tx σ → TM nb tx τ → nRl v w → σ.1 3 4 = nI p → σ.1 3 5 = nI v → τ.1 468 20 = nI p → τ.1 468 23 = nI w → ∀ z y, m < z → m < y → q_X6_readNumber N z σ ∧ q_X9_scanNumber N y τ ∧ rfr (fun q j => q = 3 ∧ (j = 4 ∨ j = 5)) σ (l_X6_readNumber N z σ) ∧ rfr (fun q j => q = 468 ∧ (j = 20 ∨ j = 23)) τ (l_X9_scanNumber N y τ) ∧ (l_X6_readNumber N z σ).1 3 4 = nI e ∧ (l_X9_scanNumber N y τ).1 468 20 = nI e ∧ ∃ v1 w1, nRl v1 w1 ∧ (l_X6_readNumber N z σ).1 3 5 = nI v1 ∧ (l_X9_scanNumber N y τ).1 468 23 = nI w1 := by
  intro m
  induction m with
  | zero =>
    intro p v w σ τ hp hs h g hr h4 h5 g4 g5 z y hz hy
    obtain rfl : p = e := by omega
    obtain ⟨z, rfl⟩ : ∃ q, z = q + 1 := ⟨z - 1, by omega⟩
    obtain ⟨y, rfl⟩ : ∃ q, y = q + 1 := ⟨y - 1, by omega⟩
    have hn := h.2.2.1
    have hp1 := hs.2.1
    have el : l_X6_readNumber N (z + 1) σ = σ := by
      rw [l_X6_readNumber, h4, h.2.1]
      by_cases c : p < nb
      · rw [if_neg (nI_ge c (by omega)), h.at c, (kn (h.2.2.2 p c).1).2.2.1, if_pos (one0.mpr (hs.2.2.2 c))]
      · rw [if_pos (nI_le (by omega) (by omega))]
    have e0 : f_X9_isDigit (f_X9_signAt (nI p) τ) = 0 := by
      by_cases c : p < nb
      · rw [(g.sg hs.2.1).2.2.1 c, (kn (h.2.2.2 p c).1).2.2.2.2.1]; exact one0.mpr (hs.2.2.2 c)
      · rw [(g.sg hs.2.1).2.2.2 (by omega)]; decide
    have er : l_X9_scanNumber N (y + 1) τ = τ := by rw [l_X9_scanNumber, g4, e0, if_pos rfl]
    rw [el, er]
    refine ⟨?_, ?_, rfr.rf, rfr.rf, h4, g4, v, w, hr, h5, g5⟩
    · rw [q_X6_readNumber, h4, h.2.1]
      refine fun y1 => ⟨h.po.1, h.pat, fun y2 => ?_⟩
      have c : p < nb := Classical.byContradiction fun w => y1 (nI_le (by omega) (by omega))
      rw [h.at c, (kn (h.2.2.2 p c).1).2.2.1] at y2
      exact absurd (one0.mpr (hs.2.2.2 c)) y2
    · rw [q_X9_scanNumber, g4, e0]
      exact ⟨(g.sg hs.2.1).1, fun y1 => absurd rfl y1⟩
  | succ m ih =>
    intro p v w σ τ hp hs h g hr h4 h5 g4 g5 z y hz hy
    obtain ⟨z, rfl⟩ : ∃ q, z = q + 1 := ⟨z - 1, by omega⟩
    obtain ⟨y, rfl⟩ : ∃ q, y = q + 1 := ⟨y - 1, by omega⟩
    have hn := h.2.2.1
    have c : p < nb := by have := hs.2.1; omega
    have cb := hs.2.2.1 p (Nat.le_refl _) (by omega)
    have cb1 : 48 ≤ tx p ∧ tx p ≤ 57 := cb
    have n1 : ¬ nI nb ≤ nI p := nI_ge c (by omega)
    have n2 : ¬ (if diB (tx p) then (1 : Int32) else 0) = 0 := fun y => one0.mp y cb
    have sb : sgnB (tx p) = nI (tx p) := if_pos (by omega)
    obtain ⟨s1, -, s3, -⟩ := g.sg (p := p) (by omega)
    have s3 := (s3 c).trans sb
    have n3 : ¬ f_X9_isDigit (nI (tx p)) = 0 := by
      rw [← sb, (kn (h.2.2.2 p c).1).2.2.2.2.1]
      exact n2
    have hv : v ≤ 10000 ∧ w < 100000 := by unfold nRl at hr; omega
    have ev : nI v * 10 + nI (tx p) - 48 = nI (v * 10 + tx p - 48) := by
      rw [show (10 : Int32) = nI 10 from rfl, show (48 : Int32) = nI 48 from rfl, pk_mul, nI_add, pk_sub (by omega)]
    have ew : (10 : Int32) * nI w + nI (tx p) - 48 = nI (10 * w + tx p - 48) := by
      rw [show (10 : Int32) = nI 10 from rfl, show (48 : Int32) = nI 48 from rfl, pk_mul, nI_add, pk_sub (by omega)]
    obtain ⟨v2, hv2⟩ : ∃ v2, (if (10000 : Int32) < nI (v * 10 + tx p - 48) then 10000 else nI (v * 10 + tx p - 48)) = nI v2 ∧ v2 = (if 10000 < v * 10 + tx p - 48 then 10000 else v * 10 + tx p - 48) := by
      by_cases k : 10000 < v * 10 + tx p - 48
      · exact ⟨10000, by rw [if_pos (show (10000 : Int32) < _ from nI_lt (a := 10000) k (by omega))]; rfl, by rw [if_pos k]⟩
      · exact ⟨v * 10 + tx p - 48, by rw [if_neg (show ¬ (10000 : Int32) < _ from nI_nlt (b := v * 10 + tx p - 48) (a := 10000) (by omega) (by omega))], by rw [if_neg k]⟩
    have hf : rfr (fun q j => q = 3 ∧ (j = 4 ∨ j = 5)) σ (zuI (zuI σ 3 5 (nI v2)) 3 4 (nI (p + 1))) := (rfr.rf.uI (show (fun q j => q = 3 ∧ (j = 4 ∨ j = 5)) 3 5 from ⟨rfl, Or.inr rfl⟩)).uI ⟨rfl, Or.inl rfl⟩
    have eu : u_X6_readNumber_h0_2 N σ = zuI (zuI σ 3 5 (nI v2)) 3 4 (nI (p + 1)) := by
      unfold u_X6_readNumber_h0_2 u_X6_readNumber_h0_1
      rw [h5, h4, h.at c, ev, hv2.1, gI_n (by omega), h4, nI_1]
    have key : ∀ w2 τ1, nRl v2 w2 → rfr (fun q j => q = 468 ∧ (j = 20 ∨ j = 23)) τ τ1 → τ1.1 468 20 = nI (p + 1) → τ1.1 468 23 = nI w2 → q_X6_readNumber N z (zuI (zuI σ 3 5 (nI v2)) 3 4 (nI (p + 1))) ∧ q_X9_scanNumber N y τ1 ∧ rfr (fun q j => q = 3 ∧ (j = 4 ∨ j = 5)) (zuI (zuI σ 3 5 (nI v2)) 3 4 (nI (p + 1))) (l_X6_readNumber N z (zuI (zuI σ 3 5 (nI v2)) 3 4 (nI (p + 1)))) ∧ rfr (fun q j => q = 468 ∧ (j = 20 ∨ j = 23)) τ1 (l_X9_scanNumber N y τ1) ∧ (l_X6_readNumber N z (zuI (zuI σ 3 5 (nI v2)) 3 4 (nI (p + 1)))).1 3 4 = nI e ∧ (l_X9_scanNumber N y τ1).1 468 20 = nI e ∧ ∃ v1 w1, nRl v1 w1 ∧ (l_X6_readNumber N z (zuI (zuI σ 3 5 (nI v2)) 3 4 (nI (p + 1)))).1 3 5 = nI v1 ∧ (l_X9_scanNumber N y τ1).1 468 23 = nI w1 := fun w2 τ1 r1 r2 r3 r4 => ih (p + 1) v2 w2 _ τ1 (by omega) ⟨by omega, hs.2.1, fun i j1 j2 => hs.2.2.1 i (by omega) j2, hs.2.2.2⟩ (h.fr (hf.wk (fun q j y => ⟨y.1, by omega, by omega⟩))) (g.fr (r2.wk (fun q j y => ⟨y.1, by omega, by omega⟩))) r1 (gI_h rfl rfl) ((gI_n (by omega)).trans (gI_h rfl rfl)) r3 r4 z y (by omega) (by omega)
    rw [q_X6_readNumber, l_X6_readNumber, h4, h.2.1, if_neg n1, h.at c, (kn (h.2.2.2 p c).1).2.2.1, if_neg n2, eu, q_X9_scanNumber, l_X9_scanNumber, g4, s3, if_neg n3, g5]
    by_cases k : w ≤ 9999
    · have k' : nI w ≤ 9999 := nI_le (b := 9999) k (by decide)
      have fu : u_X9_scanNumber_h0_2 N τ = zuI (zuI τ 468 23 (nI (10 * w + tx p - 48))) 468 20 (nI (p + 1)) := by
        unfold u_X9_scanNumber_h0_2 u_X9_scanNumber_h0_1
        rw [g5, g4, s3, ew, gI_n (by omega), g4, nI_1]
      have hg : rfr (fun q j => q = 468 ∧ (j = 20 ∨ j = 23)) τ (zuI (zuI τ 468 23 (nI (10 * w + tx p - 48))) 468 20 (nI (p + 1))) := (rfr.rf.uI (show (fun q j => q = 468 ∧ (j = 20 ∨ j = 23)) 468 23 from ⟨rfl, Or.inr rfl⟩)).uI ⟨rfl, Or.inl rfl⟩
      have rl : nRl v2 (10 * w + tx p - 48) := by
        unfold nRl at hr ⊢
        have e2 := hv2.2
        by_cases k2 : 10000 < v * 10 + tx p - 48
        · rw [if_pos k2] at e2
          omega
        · rw [if_neg k2] at e2
          omega
      obtain ⟨i1, i2, i3, i4, i5, i6, i7⟩ := key _ _ rl hg (gI_h rfl rfl) ((gI_n (by omega)).trans (gI_h rfl rfl))
      rw [if_pos k', fu]
      exact ⟨fun _ => ⟨h.po.1, h.pat, fun _ => ⟨h.pat, i1⟩⟩, ⟨s1, fun _ => ⟨fun _ => ⟨s1, i2⟩, fun y1 => absurd k' y1⟩⟩, hf.tr i3, hg.tr i4, i5, i6, i7⟩
    · have k' : ¬ nI w ≤ 9999 := nI_ge (a := 9999) (by omega) (by omega)
      have fu : u_X9_scanNumber_h0_4 N τ = zuI (zuI τ 468 23 (nI w)) 468 20 (nI (p + 1)) := by
        unfold u_X9_scanNumber_h0_4 u_X9_scanNumber_h0_3
        rw [g5, gI_n (by omega), g4, nI_1]
      have hg : rfr (fun q j => q = 468 ∧ (j = 20 ∨ j = 23)) τ (zuI (zuI τ 468 23 (nI w)) 468 20 (nI (p + 1))) := (rfr.rf.uI (show (fun q j => q = 468 ∧ (j = 20 ∨ j = 23)) 468 23 from ⟨rfl, Or.inr rfl⟩)).uI ⟨rfl, Or.inl rfl⟩
      have rl : nRl v2 w := by
        unfold nRl at hr ⊢
        have e2 := hv2.2
        by_cases k2 : 10000 < v * 10 + tx p - 48
        · rw [if_pos k2] at e2
          omega
        · rw [if_neg k2] at e2
          omega
      obtain ⟨i1, i2, i3, i4, i5, i6, i7⟩ := key _ _ rl hg (gI_h rfl rfl) ((gI_n (by omega)).trans (gI_h rfl rfl))
      rw [if_neg k', fu]
      exact ⟨fun _ => ⟨h.po.1, h.pat, fun _ => ⟨h.pat, i1⟩⟩, ⟨s1, fun _ => ⟨fun y1 => absurd y1 k', fun _ => i2⟩⟩, hf.tr i3, hg.tr i4, i5, i6, i7⟩
/-- the words -/
def wlL : List Nat := [7, 7, 5, 5, 3, 4, 6, 5, 7, 6, 2, 4, 4]
def woL : List Nat := [0, 8, 16, 22, 28, 32, 37, 44, 50, 58, 65, 68, 73, 78]
def wl (w : Nat) : Nat := wlL.getD w 0
def wo (w : Nat) : Nat := woL.getD w 0
def lt (i : Nat) : Nat := ltrs.getD i 0
def Mt (tx : Nat → Nat) (s e w : Nat) : Prop := wl w = e - s ∧ ∀ i, i < wl w → tx (s + i) = lt (wo w + i)
theorem w_13 : ∀ w : Fin 13, wl w.1 ≤ 7 ∧ wo w.1 + wl w.1 < 78 ∧ wo (w.1 + 1) = wo w.1 + wl w.1 + 1 ∧ lt (wo w.1 + wl w.1) = 32 ∧ f_J0_length_8abf5 w.1 = nI (wl w.1) ∧ zslenL.getD w.1 0 = wl w.1 := by decide +kernel
theorem w_7 : ∀ w : Fin 13, ∀ i : Fin 7, i.1 < wl w.1 → lt (wo w.1 + i.1) < 128 ∧ ¬ lt (wo w.1 + i.1) = 32 ∧ f_J0_charAt_5068e w.1 (nI i.1) = nI (lt (wo w.1 + i.1)) ∧ (((f_J1_charAt_3b067 w.1 (nI i.1)).toUInt32 % 65536).toInt32 = f_J1_charAt_3b067 w.1 (nI i.1)) := by decide +kernel
theorem w_u : ∀ w : Fin 13, ∀ u : Fin 13, wl w.1 = wl u.1 → (∀ i : Fin 7, i.1 < wl w.1 → lt (wo w.1 + i.1) = lt (wo u.1 + i.1)) → w.1 = u.1 := by decide +kernel
theorem Mt.u {s e w u : Nat} (h : Mt tx s e w) (g : Mt tx s e u) (hw : w < 13) (hu : u < 13) : w = u := by
  refine w_u ⟨w, hw⟩ ⟨u, hu⟩ (h.1.trans g.1.symm) (fun i hi => ?_)
  have h1 := h.1
  have g1 := g.1
  have hi : i.1 < wl w := hi
  exact (h.2 i.1 hi).symm.trans (g.2 i.1 (by omega))
theorem cl_word {s e t : Nat} (ht : t < 13) (h : TC nb tx σ) (h3 : σ.1 3 3 = nI s) (h4 : σ.1 3 4 = nI e) (hse : s ≤ e) (he : e ≤ nb) (hN : 20 < N) : p_X6_isWord t N σ ∧ ((f_X6_isWord t N σ = 1 ∧ Mt tx s e t) ∨ (f_X6_isWord t N σ = 0 ∧ ¬ Mt tx s e t)) := by
  have hn := h.2.2.1
  obtain ⟨w1, w2, w3, w4, w5, w6⟩ := w_13 ⟨t, ht⟩
  have w1 : wl t ≤ 7 := w1
  have w5 : f_J0_length_8abf5 t = nI (wl t) := w5
  have w6 : zslenL.getD t 0 = wl t := w6
  obtain ⟨o1, o2, o3⟩ := h.po
  have key : wl t = e - s → ∀ (m i : Nat), i + m = wl t → (∀ j, j < i → tx (s + j) = lt (wo t + j)) → ∀ z, m < z → q_X6_isWord t N z (nI i) σ ∧ ((l_X6_isWord t N z (nI i) σ = 1 ∧ Mt tx s e t) ∨ (l_X6_isWord t N z (nI i) σ = 0 ∧ ¬ Mt tx s e t)) := by
    intro ew m
    induction m with
    | zero =>
      intro i hi hj z hz
      obtain ⟨z, rfl⟩ : ∃ q, z = q + 1 := ⟨z - 1, by omega⟩
      have c : nI (wl t) ≤ nI i := nI_le (by omega) (by omega)
      rw [q_X6_isWord, l_X6_isWord, w5, if_pos c]
      exact ⟨fun y => absurd c y, Or.inl ⟨rfl, ew, fun j hj1 => hj j (by omega)⟩⟩
    | succ m ih =>
      intro i hi hj z hz
      obtain ⟨z, rfl⟩ : ∃ q, z = q + 1 := ⟨z - 1, by omega⟩
      have c : ¬ nI (wl t) ≤ nI i := nI_ge (by omega) (by omega)
      have c1 : ¬ (Int32.ofNat 1000) ≤ nI (s + i) := nI_ge (b := 1000) (by omega) (by decide)
      obtain ⟨v1, v2, v3, v4⟩ := w_7 ⟨t, ht⟩ ⟨i, by omega⟩ (show i < wl t by omega)
      have v1 : lt (wo t + i) < 128 := v1
      have v3 : f_J0_charAt_5068e t (nI i) = nI (lt (wo t + i)) := v3
      obtain ⟨b1, b2⟩ := h.2.2.2 (s + i) (by omega)
      have pc : p_J0_charAt_5068e t (nI i) σ := by
        refine ⟨⟨⟨nI_pos (by omega), ?_⟩, ?_, ?_⟩, v4⟩
        · rw [w6]; exact nI_lt (by omega) (by omega)
        · rw [w6]; exact vp_in_nI (by omega) (by omega)
        · exact v4
      have pv : vp_in (nI (s + i)) 1000 := vp_in_nI (by omega) (by decide)
      rw [q_X6_isWord, l_X6_isWord, w5, if_neg c, o3, h3, nI_add, if_neg c1, v3, o2, nI_clamp (by omega), b2, nI_1]
      by_cases k : lt (wo t + i) = tx (s + i)
      · have k' : nI (lt (wo t + i)) = nI (tx (s + i)) := by rw [k]
        obtain ⟨i1, i2⟩ := ih (i + 1) (by omega) (fun j hj1 => by
          by_cases ej : j = i
          · rw [ej]; exact k.symm
          · exact hj j (by omega)) z (by omega)
        rw [if_pos k']
        exact ⟨fun _ => ⟨by rw [h.1]; exact ⟨by decide, by decide⟩, fun _ => ⟨pc, pv, fun _ => i1⟩⟩, i2⟩
      · have k' : ¬ nI (lt (wo t + i)) = nI (tx (s + i)) := fun y => k ((nI_eq (by omega) (by omega)).mp y)
        rw [if_neg k']
        exact ⟨fun _ => ⟨by rw [h.1]; exact ⟨by decide, by decide⟩, fun _ => ⟨pc, pv, fun y => absurd y k'⟩⟩, Or.inr ⟨rfl, fun y => k (y.2 i (by omega)).symm⟩⟩
  unfold p_X6_isWord f_X6_isWord
  rw [h3, h4, pk_sub hse, w5]
  by_cases c : wl t = e - s
  · have c' : nI (wl t) = nI (e - s) := by rw [c]
    rw [if_pos c']
    obtain ⟨k1, k2⟩ := key c (wl t) 0 (by omega) (fun j hj => by omega) N (by omega)
    exact ⟨fun _ => k1, k2⟩
  · have c' : ¬ nI (wl t) = nI (e - s) := fun y => c ((nI_eq (by omega) (by omega)).mp y)
    rw [if_neg c']
    exact ⟨fun y => absurd y c', Or.inr ⟨rfl, fun y => c y.1⟩⟩
theorem cl_wordKind {s e : Nat} (h : TC nb tx σ) (h3 : σ.1 3 3 = nI s) (h4 : σ.1 3 4 = nI e) (hse : s ≤ e) (he : e ≤ nb) (hN : 20 < N) : p_X6_wordKind N σ ∧ ((∃ w, w < 13 ∧ Mt tx s e w ∧ f_X6_wordKind N σ = nI (310 + w)) ∨ ((∀ w, w < 13 → ¬ Mt tx s e w) ∧ f_X6_wordKind N σ = 303)) := by
  have n10 : ¬ (1 : Int32) = 0 := by decide
  have H : ∀ t, t < 13 → p_X6_isWord t N σ ∧ ((f_X6_isWord t N σ = 1 ∧ Mt tx s e t) ∨ (f_X6_isWord t N σ = 0 ∧ ¬ Mt tx s e t)) := fun t ht => cl_word ht h h3 h4 hse he hN
  refine ⟨⟨(H 0 (by decide)).1, fun _ => ⟨(H 1 (by decide)).1, fun _ => ⟨(H 2 (by decide)).1, fun _ => ⟨(H 3 (by decide)).1, fun _ => ⟨(H 4 (by decide)).1, fun _ => ⟨(H 5 (by decide)).1, fun _ => ⟨(H 6 (by decide)).1, fun _ => ⟨(H 7 (by decide)).1, fun _ => ⟨(H 8 (by decide)).1, fun _ => ⟨(H 9 (by decide)).1, fun _ => ⟨(H 10 (by decide)).1, fun _ => ⟨(H 11 (by decide)).1, fun _ => (H 12 (by decide)).1⟩⟩⟩⟩⟩⟩⟩⟩⟩⟩⟩⟩, ?_⟩
  unfold f_X6_wordKind
  rcases (H 0 (by decide)).2 with ⟨a, b⟩ | ⟨a, b0⟩
  · rw [a, if_neg n10]
    exact Or.inl ⟨0, by decide, b, rfl⟩
  rw [a, if_pos rfl]
  clear a
  rcases (H 1 (by decide)).2 with ⟨a, b⟩ | ⟨a, b1⟩
  · rw [a, if_neg n10]
    exact Or.inl ⟨1, by decide, b, rfl⟩
  rw [a, if_pos rfl]
  clear a
  rcases (H 2 (by decide)).2 with ⟨a, b⟩ | ⟨a, b2⟩
  · rw [a, if_neg n10]
    exact Or.inl ⟨2, by decide, b, rfl⟩
  rw [a, if_pos rfl]
  clear a
  rcases (H 3 (by decide)).2 with ⟨a, b⟩ | ⟨a, b3⟩
  · rw [a, if_neg n10]
    exact Or.inl ⟨3, by decide, b, rfl⟩
  rw [a, if_pos rfl]
  clear a
  rcases (H 4 (by decide)).2 with ⟨a, b⟩ | ⟨a, b4⟩
  · rw [a, if_neg n10]
    exact Or.inl ⟨4, by decide, b, rfl⟩
  rw [a, if_pos rfl]
  clear a
  rcases (H 5 (by decide)).2 with ⟨a, b⟩ | ⟨a, b5⟩
  · rw [a, if_neg n10]
    exact Or.inl ⟨5, by decide, b, rfl⟩
  rw [a, if_pos rfl]
  clear a
  rcases (H 6 (by decide)).2 with ⟨a, b⟩ | ⟨a, b6⟩
  · rw [a, if_neg n10]
    exact Or.inl ⟨6, by decide, b, rfl⟩
  rw [a, if_pos rfl]
  clear a
  rcases (H 7 (by decide)).2 with ⟨a, b⟩ | ⟨a, b7⟩
  · rw [a, if_neg n10]
    exact Or.inl ⟨7, by decide, b, rfl⟩
  rw [a, if_pos rfl]
  clear a
  rcases (H 8 (by decide)).2 with ⟨a, b⟩ | ⟨a, b8⟩
  · rw [a, if_neg n10]
    exact Or.inl ⟨8, by decide, b, rfl⟩
  rw [a, if_pos rfl]
  clear a
  rcases (H 9 (by decide)).2 with ⟨a, b⟩ | ⟨a, b9⟩
  · rw [a, if_neg n10]
    exact Or.inl ⟨9, by decide, b, rfl⟩
  rw [a, if_pos rfl]
  clear a
  rcases (H 10 (by decide)).2 with ⟨a, b⟩ | ⟨a, b10⟩
  · rw [a, if_neg n10]
    exact Or.inl ⟨10, by decide, b, rfl⟩
  rw [a, if_pos rfl]
  clear a
  rcases (H 11 (by decide)).2 with ⟨a, b⟩ | ⟨a, b11⟩
  · rw [a, if_neg n10]
    exact Or.inl ⟨11, by decide, b, rfl⟩
  rw [a, if_pos rfl]
  clear a
  rcases (H 12 (by decide)).2 with ⟨a, b⟩ | ⟨a, b12⟩
  · rw [a, if_neg n10]
    exact Or.inl ⟨12, by decide, b, rfl⟩
  rw [a, if_pos rfl]
  clear a
  refine Or.inr ⟨fun w hw => ?_, rfl⟩
  rcases (show w = 0 ∨ w = 1 ∨ w = 2 ∨ w = 3 ∨ w = 4 ∨ w = 5 ∨ w = 6 ∨ w = 7 ∨ w = 8 ∨ w = 9 ∨ w = 10 ∨ w = 11 ∨ w = 12 by omega) with rfl | rfl | rfl | rfl | rfl | rfl | rfl | rfl | rfl | rfl | rfl | rfl | rfl
  · exact b0
  · exact b1
  · exact b2
  · exact b3
  · exact b4
  · exact b5
  · exact b6
  · exact b7
  · exact b8
  · exact b9
  · exact b10
  · exact b11
  · exact b12
theorem sgn_lt : ∀ b : Fin 256, 128 ≤ b.1 → sgnB b.1 < 0 := by decide +kernel
theorem sgn_eq {a b : Nat} (ha : a < 128) (hb : b < 256) : nI a = sgnB b ↔ a = b := by
  by_cases c : b < 128
  · rw [show sgnB b = nI b from if_pos c]
    exact nI_eq (by omega) (by omega)
  · constructor
    · intro y
      have := sgn_lt ⟨b, hb⟩ (by show 128 ≤ b; omega)
      have this : sgnB b < 0 := this
      rw [← y] at this
      exact absurd this (nI_pos (by omega))
    · intro y
      omega
theorem rf_same {s e t : Nat} (ht : t < 13) (h : TM nb tx τ) (h3 : τ.1 468 21 = nI s) (h4 : τ.1 468 20 = nI e) (hse : s ≤ e) (he : e ≤ nb) (hN : 20 < N) : p_X9_isSame (nI (wo t)) (nI (wo t + wl t)) N τ ∧ ((f_X9_isSame (nI (wo t)) (nI (wo t + wl t)) N τ = 1 ∧ Mt tx s e t) ∨ (f_X9_isSame (nI (wo t)) (nI (wo t + wl t)) N τ = 0 ∧ ¬ Mt tx s e t)) := by
  have hn := h.2.1
  obtain ⟨w1, w2, -⟩ := w_13 ⟨t, ht⟩
  have w1 : wl t ≤ 7 := w1
  have w2 : wo t + wl t < 78 := w2
  have ed : nI (wo t + wl t) - nI (wo t) = nI (wl t) := by rw [pk_sub (by omega)]; congr 1; omega
  have key : wl t = e - s → ∀ (m i : Nat), i + m = wl t → (∀ j, j < i → tx (s + j) = lt (wo t + j)) → ∀ z, m < z → q_X9_isSame N z (nI (wo t)) (nI (wo t + wl t)) (nI i) τ ∧ ((l_X9_isSame N z (nI (wo t)) (nI (wo t + wl t)) (nI i) τ = 1 ∧ Mt tx s e t) ∨ (l_X9_isSame N z (nI (wo t)) (nI (wo t + wl t)) (nI i) τ = 0 ∧ ¬ Mt tx s e t)) := by
    intro ew m
    induction m with
    | zero =>
      intro i hi hj z hz
      obtain ⟨z, rfl⟩ : ∃ q, z = q + 1 := ⟨z - 1, by omega⟩
      have c : nI (wl t) ≤ nI i := nI_le (by omega) (by omega)
      rw [q_X9_isSame, l_X9_isSame, ed, if_pos c]
      exact ⟨fun y => absurd c y, Or.inl ⟨rfl, ew, fun j hj1 => hj j (by omega)⟩⟩
    | succ m ih =>
      intro i hi hj z hz
      obtain ⟨z, rfl⟩ : ∃ q, z = q + 1 := ⟨z - 1, by omega⟩
      have c : ¬ nI (wl t) ≤ nI i := nI_ge (by omega) (by omega)
      obtain ⟨v1, -⟩ := w_7 ⟨t, ht⟩ ⟨i, by omega⟩ (show i < wl t by omega)
      have v1 : lt (wo t + i) < 128 := v1
      obtain ⟨b1, b2⟩ := h.2.2.1 (s + i) (by omega)
      have el : τ.1 486 (wo t + i) = nI (lt (wo t + i)) := h.2.2.2 _ (by omega)
      have pv : vp_in (nI (wo t + i)) 78 := vp_in_nI (by omega) (by decide)
      have pw : vp_in (nI (s + i)) 1000 := vp_in_nI (by omega) (by decide)
      rw [q_X9_isSame, l_X9_isSame, ed, if_neg c, nI_add, h3, nI_add, nI_clamp (by omega), nI_clamp (by omega), el, b2, nI_1]
      by_cases k : lt (wo t + i) = tx (s + i)
      · have k' : nI (lt (wo t + i)) = sgnB (tx (s + i)) := (sgn_eq v1 b1).mpr k
        obtain ⟨i1, i2⟩ := ih (i + 1) (by omega) (fun j hj1 => by
          by_cases ej : j = i
          · rw [ej]; exact k.symm
          · exact hj j (by omega)) z (by omega)
        rw [if_pos k']
        exact ⟨fun _ => ⟨pv, pw, fun _ => i1⟩, i2⟩
      · have k' : ¬ nI (lt (wo t + i)) = sgnB (tx (s + i)) := fun y => k ((sgn_eq v1 b1).mp y)
        rw [if_neg k']
        exact ⟨fun _ => ⟨pv, pw, fun y => absurd y k'⟩, Or.inr ⟨rfl, fun y => k (y.2 i (by omega)).symm⟩⟩
  unfold p_X9_isSame f_X9_isSame
  rw [h3, h4, pk_sub hse, ed]
  by_cases c : wl t = e - s
  · have c' : nI (wl t) = nI (e - s) := by rw [c]
    rw [if_pos c']
    obtain ⟨k1, k2⟩ := key c (wl t) 0 (by omega) (fun j hj => by omega) N (by omega)
    exact ⟨fun _ => k1, k2⟩
  · have c' : ¬ nI (wl t) = nI (e - s) := fun y => c ((nI_eq (by omega) (by omega)).mp y)
    rw [if_neg c']
    exact ⟨fun y => absurd y c', Or.inr ⟨rfl, fun y => c y.1⟩⟩
theorem rf_to {t : Nat} (ht : t < 13) (h : TM nb tx τ) {v1 v2 : Int32} : ∀ (m i : Nat), i + m = wl t → ∀ z, l_X9_scanWord N (z + m) 2 v1 v2 (nI (wo t + i)) τ = l_X9_scanWord N z 2 v1 v2 (nI (wo t + wl t)) τ ∧ (q_X9_scanWord N z 2 v1 v2 (nI (wo t + wl t)) τ → q_X9_scanWord N (z + m) 2 v1 v2 (nI (wo t + i)) τ) := by
  obtain ⟨w1, w2, -⟩ := w_13 ⟨t, ht⟩
  have w1 : wl t ≤ 7 := w1
  have w2 : wo t + wl t < 78 := w2
  intro m
  induction m with
  | zero =>
    intro i hi z
    rw [show i = wl t by omega]
    exact ⟨rfl, fun y => y⟩
  | succ m ih =>
    intro i hi z
    obtain ⟨v1', v2', -⟩ := w_7 ⟨t, ht⟩ ⟨i, by omega⟩ (show i < wl t by omega)
    have v1' : lt (wo t + i) < 128 := v1'
    have v2' : ¬ lt (wo t + i) = 32 := v2'
    have el : τ.1 486 (wo t + i) = nI (lt (wo t + i)) := h.2.2.2 _ (by omega)
    have n1 : ¬ nI (lt (wo t + i)) = 32 := fun y => v2' ((nI_eq (b := 32) (by omega) (by decide)).mp y)
    obtain ⟨i1, i2⟩ := ih (i + 1) (by omega) z
    refine ⟨?_, fun y => ?_⟩
    · rw [show z + (m + 1) = (z + m) + 1 by omega, l_X9_scanWord, nI_clamp (by omega), el, if_neg n1, nI_1]
      exact i1
    · rw [show z + (m + 1) = (z + m) + 1 by omega, q_X9_scanWord, nI_clamp (by omega), el, nI_1]
      exact ⟨vp_in_nI (by omega) (by decide), fun y1 => absurd y1 n1, fun _ => i2 y⟩
theorem rf_words {s e : Nat} (hse : s ≤ e) (he : e ≤ nb) (hN : 20 < N) : ∀ (m w : Nat) (τ : zS) (v3 : Int32), w + m = 13 → TM nb tx τ → τ.1 468 21 = nI s → τ.1 468 20 = nI e → ∀ z, q_X9_scanWord N (z + 9 * m + 1) 1 (nI (wo w)) (nI w) v3 τ ∧ rfr (fun q j => q = 468 ∧ j = 24) τ (l_X9_scanWord N (z + 9 * m + 1) 1 (nI (wo w)) (nI w) v3 τ) ∧ ((∃ u, w ≤ u ∧ u < 13 ∧ Mt tx s e u ∧ (l_X9_scanWord N (z + 9 * m + 1) 1 (nI (wo w)) (nI w) v3 τ).1 468 24 = nI u) ∨ ((∀ u, w ≤ u → u < 13 → ¬ Mt tx s e u) ∧ (l_X9_scanWord N (z + 9 * m + 1) 1 (nI (wo w)) (nI w) v3 τ).1 468 24 = τ.1 468 24)) := by
  intro m
  induction m with
  | zero =>
    intro w τ v3 hw h h3 h4 z
    have c : (13 : Int32) ≤ nI w := nI_le (a := 13) (by omega) (by omega)
    rw [q_X9_scanWord, l_X9_scanWord, if_pos c]
    exact ⟨fun y => absurd c y, rfr.rf, Or.inr ⟨fun u u1 u2 => by omega, rfl⟩⟩
  | succ m ih =>
    intro w τ v3 hw h h3 h4 z
    have w13 : w < 13 := by omega
    have c : ¬ (13 : Int32) ≤ nI w := nI_ge (b := 13) w13 (by decide)
    obtain ⟨w1, w2, w3, w4, -⟩ := w_13 ⟨w, w13⟩
    have w1 : wl w ≤ 7 := w1
    have w2 : wo w + wl w < 78 := w2
    have w3 : wo (w + 1) = wo w + wl w + 1 := w3
    have w4 : lt (wo w + wl w) = 32 := w4
    obtain ⟨y, hy⟩ : ∃ y, z + 9 * (m + 1) + 1 = ((y + 9 * m + 1) + 1 + wl w) + 1 := ⟨z + 9 - wl w - 2, by omega⟩
    have tt := rf_to (N := N) w13 h (v1 := nI (wo w)) (v2 := nI w) (wl w) 0 (by omega) (y + 9 * m + 1 + 1)
    have t1 : l_X9_scanWord N (y + 9 * m + 1 + 1 + wl w) 2 (nI (wo w)) (nI w) (nI (wo w)) τ = l_X9_scanWord N (y + 9 * m + 1 + 1) 2 (nI (wo w)) (nI w) (nI (wo w + wl w)) τ := tt.1
    have t2 : q_X9_scanWord N (y + 9 * m + 1 + 1) 2 (nI (wo w)) (nI w) (nI (wo w + wl w)) τ → q_X9_scanWord N (y + 9 * m + 1 + 1 + wl w) 2 (nI (wo w)) (nI w) (nI (wo w)) τ := tt.2
    have el : τ.1 486 (wo w + wl w) = 32 := by
      rw [h.2.2.2 _ (by omega)]
      show nI (lt (wo w + wl w)) = 32
      rw [w4]
      rfl
    have pv : vp_in (nI (wo w + wl w)) 78 := vp_in_nI (by omega) (by decide)
    obtain ⟨p1, p2⟩ := rf_same (N := N) w13 h h3 h4 hse he hN
    rw [hy, q_X9_scanWord, l_X9_scanWord, if_neg c, t1]
    suffices g : q_X9_scanWord N (y + 9 * m + 1 + 1) 2 (nI (wo w)) (nI w) (nI (wo w + wl w)) τ ∧ rfr (fun q j => q = 468 ∧ j = 24) τ (l_X9_scanWord N (y + 9 * m + 1 + 1) 2 (nI (wo w)) (nI w) (nI (wo w + wl w)) τ) ∧ ((∃ u, w ≤ u ∧ u < 13 ∧ Mt tx s e u ∧ (l_X9_scanWord N (y + 9 * m + 1 + 1) 2 (nI (wo w)) (nI w) (nI (wo w + wl w)) τ).1 468 24 = nI u) ∨ ((∀ u, w ≤ u → u < 13 → ¬ Mt tx s e u) ∧ (l_X9_scanWord N (y + 9 * m + 1 + 1) 2 (nI (wo w)) (nI w) (nI (wo w + wl w)) τ).1 468 24 = τ.1 468 24)) from ⟨fun _ => t2 g.1, g.2⟩
    rw [q_X9_scanWord, l_X9_scanWord, nI_clamp (by omega), el, if_pos rfl, nI_1, nI_1, ← w3]
    rcases p2 with ⟨q1, q2⟩ | ⟨q1, q2⟩
    · have n10 : ¬ (1 : Int32) = 0 := by decide
      have eu : u_X9_scanWord_h2_1 N (nI (wo w)) (nI w) (nI (wo w + wl w)) τ = zuI τ 468 24 (nI w) := rfl
      have hf : rfr (fun q j => q = 468 ∧ j = 24) τ (zuI τ 468 24 (nI w)) := rfr.rf.uI (show (fun q j => q = 468 ∧ j = 24) 468 24 from ⟨rfl, rfl⟩)
      obtain ⟨i1, i2, i3⟩ := ih (w + 1) (zuI τ 468 24 (nI w)) 0 (by omega) (h.fr (hf.wk (fun q j y => ⟨y.1, by omega, by omega⟩))) ((gI_n (by omega)).trans h3) ((gI_n (by omega)).trans h4) y
      rw [q1, if_neg n10, eu]
      refine ⟨⟨pv, fun _ => ⟨p1, fun y1 => absurd y1 n10, fun _ => i1⟩, fun y1 => absurd rfl y1⟩, hf.tr i2, Or.inl ⟨w, Nat.le_refl _, w13, q2, ?_⟩⟩
      rcases i3 with ⟨u, u1, u2, u3, u4⟩ | ⟨u1, u2⟩
      · have := q2.u u3 w13 u2
        omega
      · rw [u2]
        exact gI_h rfl rfl
    · obtain ⟨i1, i2, i3⟩ := ih (w + 1) τ 0 (by omega) h h3 h4 y
      rw [q1, if_pos rfl]
      refine ⟨⟨pv, fun _ => ⟨p1, fun _ => i1, fun y1 => absurd rfl y1⟩, fun y1 => absurd rfl y1⟩, i2, ?_⟩
      rcases i3 with ⟨u, u1, u2⟩ | ⟨u1, u2⟩
      · exact Or.inl ⟨u, by omega, u2⟩
      · refine Or.inr ⟨fun u v1 v2 => ?_, u2⟩
        by_cases k : u = w
        · rw [k]; exact q2
        · exact u1 u (by omega) v2
end IS
