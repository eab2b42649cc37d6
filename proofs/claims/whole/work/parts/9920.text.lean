/-! the text: signs, blanks, words, numbers on both sides -/
section IS
variable {nb N : Nat} {tx : Nat → Nat} {σ σ1 σ2 τ τ1 τ2 : zS}
/-- the text on both sides -/
def TC (nb : Nat) (tx : Nat → Nat) (σ : zS) : Prop := σ.2 3 0 = 2 ∧ σ.1 3 1 = nI nb ∧ nb ≤ 1000 ∧ ∀ i, i < nb → tx i < 256 ∧ σ.1 1 i = nI (tx i)
def TM (nb : Nat) (tx : Nat → Nat) (τ : zS) : Prop := τ.1 468 19 = nI nb ∧ nb ≤ 1000 ∧ (∀ i, i < nb → tx i < 256 ∧ τ.1 485 i = sgnB (tx i)) ∧ LTE τ
def sTC (q j : Nat) : Prop := q = 3 ∧ 2 ≤ j ∧ j ≤ 5
def sTM (q j : Nat) : Prop := q = 468 ∧ 20 ≤ j ∧ j ≤ 24
theorem TC.eq (h : TC nb tx σ) (h1 : ∀ q j, (q = 1 ∨ (q = 3 ∧ j = 1)) → σ1.1 q j = σ.1 q j) (h2 : σ1.2 3 0 = σ.2 3 0) : TC nb tx σ1 := ⟨h2.trans h.1, (h1 _ _ (by omega)).trans h.2.1, h.2.2.1, fun i hi => ⟨(h.2.2.2 i hi).1, (h1 _ _ (by omega)).trans (h.2.2.2 i hi).2⟩⟩
theorem TC.fr (h : TC nb tx σ) (hf : rfr sTC σ σ1) : TC nb tx σ1 := h.eq (fun q j z => hf.2 q j (fun y => by unfold sTC at y; omega)) (by rw [hf.1])
theorem TM.eq (h : TM nb tx τ) (h1 : ∀ q j, (q = 485 ∨ q = 486 ∨ (q = 468 ∧ j = 19)) → τ1.1 q j = τ.1 q j) : TM nb tx τ1 := ⟨(h1 _ _ (by omega)).trans h.1, h.2.1, fun i hi => ⟨(h.2.2.1 i hi).1, (h1 _ _ (by omega)).trans (h.2.2.1 i hi).2⟩, fun i hi => (h1 _ _ (by omega)).trans (h.2.2.2 i hi)⟩
theorem TM.fr (h : TM nb tx τ) (hf : rfr sTM τ τ1) : TM nb tx τ1 := h.eq (fun q j z => hf.2 q j (fun y => by unfold sTM at y; omega))
theorem TC.po (h : TC nb tx σ) : (σ.2 3 0 ≠ 0 ∧ (zlay (σ.2 3 0 - 1)).1 = 20) ∧ σ.2 3 0 - 1 = 1 ∧ (zlay (σ.2 3 0 - 1)).2 = 1000 := by
  rw [h.1]
  exact ⟨⟨by decide, by decide⟩, rfl, by decide⟩
theorem TC.at (h : TC nb tx σ) {p : Nat} (hp : p < nb) : f_X8_at ((zlay (σ.2 3 0 - 1)).2) (σ.2 3 0 - 1) (nI p) σ = nI (tx p) := by
  obtain ⟨-, e1, e2⟩ := h.po
  have := h.2.2.1
  rw [e2, e1, at_i (by omega) (by decide), (h.2.2.2 p hp).2]
theorem TC.pat (h : TC nb tx σ) {x : Int32} : p_X8_at ((zlay (σ.2 3 0 - 1)).2) (σ.2 3 0 - 1) x σ := by
  rw [h.po.2.2]
  exact at_p (by decide)
theorem TM.sg (h : TM nb tx τ) {p : Nat} (hp : p ≤ nb) : p_X9_signAt (nI p) τ ∧ p_X9_isBlank (nI p) τ ∧ (p < nb → f_X9_signAt (nI p) τ = sgnB (tx p)) ∧ (p = nb → f_X9_signAt (nI p) τ = 0) := by
  have hn := h.2.1
  refine ⟨fun y => ?_, fun y => ?_, fun y => ?_, fun y => ?_⟩
  · rw [h.1] at y
    exact vp_in_nI (Classical.byContradiction fun w => y (nI_le (by omega) (by omega))) (by decide)
  · rw [h.1] at y
    exact vp_in_nI (Classical.byContradiction fun w => y (nI_le (by omega) (by omega))) (by decide)
  · unfold f_X9_signAt
    rw [h.1, if_neg (nI_ge y (by omega)), nI_clamp (by omega), (h.2.2.1 p y).2]
  · unfold f_X9_signAt
    rw [h.1, if_pos (nI_le (by omega) (by omega))]
/-- kinds of signs -/
abbrev blB (c : Nat) : Prop := c = 32 ∨ c = 10
abbrev leB (c : Nat) : Prop := 97 ≤ c ∧ c ≤ 122
abbrev diB (c : Nat) : Prop := 48 ≤ c ∧ c ≤ 57
theorem kinds_256 : ∀ c : Fin 256, (f_X6_isBlank (nI c.1) = if blB c.1 then 1 else 0) ∧ (f_X6_isLetter (nI c.1) = if leB c.1 then 1 else 0) ∧ (f_X6_isDigit (nI c.1) = if diB c.1 then 1 else 0) ∧ (f_X9_isLetter (sgnB c.1) = if leB c.1 then 1 else 0) ∧ (f_X9_isDigit (sgnB c.1) = if diB c.1 then 1 else 0) ∧ ((if sgnB c.1 = 32 then (1 : Int32) else if sgnB c.1 = 10 then 1 else 0) = if blB c.1 then 1 else 0) := by decide +kernel
theorem kn {c : Nat} (h : c < 256) : (f_X6_isBlank (nI c) = if blB c then 1 else 0) ∧ (f_X6_isLetter (nI c) = if leB c then 1 else 0) ∧ (f_X6_isDigit (nI c) = if diB c then 1 else 0) ∧ (f_X9_isLetter (sgnB c) = if leB c then 1 else 0) ∧ (f_X9_isDigit (sgnB c) = if diB c then 1 else 0) ∧ ((if sgnB c = 32 then (1 : Int32) else if sgnB c = 10 then 1 else 0) = if blB c then 1 else 0) := kinds_256 ⟨c, h⟩
theorem TM.bl (h : TM nb tx τ) {p : Nat} (hp : p < nb) : f_X9_isBlank (nI p) τ = if blB (tx p) then 1 else 0 := by
  have hn := h.2.1
  unfold f_X9_isBlank
  rw [h.1, if_neg (nI_ge hp (by omega)), nI_clamp (by omega), (h.2.2.1 p hp).2]
  exact (kn (h.2.2.1 p hp).1).2.2.2.2.2
theorem TM.bl0 (h : TM nb tx τ) : f_X9_isBlank (nI nb) τ = 0 := by
  have hn := h.2.1
  unfold f_X9_isBlank
  rw [h.1, if_pos (nI_le (Nat.le_refl _) (by omega))]
/-- signs between -/
def sgL (k : Nat) : Int32 := (zsbytL.getD ((1000040 + 13) - 1000040) []).getD k 0
theorem ix_l {v1 v2 v4 : Int32} : ∀ (m i : Nat), i + m = 12 → ∀ z, m < z → q_J1_indexOfChar_4cfef 13 N z v1 v2 (nI 12) v4 (nI i) σ ∧ ((∃ k, k < 12 ∧ sgL k = v4 ∧ l_J1_indexOfChar_4cfef 13 N z v1 v2 (nI 12) v4 (nI i) σ = nI k) ∨ (l_J1_indexOfChar_4cfef 13 N z v1 v2 (nI 12) v4 (nI i) σ = -1 ∧ ∀ k, i ≤ k → k < 12 → ¬ sgL k = v4)) := by
  intro m
  induction m with
  | zero =>
    intro i hi z hz
    obtain ⟨z, rfl⟩ : ∃ q, z = q + 1 := ⟨z - 1, by omega⟩
    have c : nI 12 ≤ nI i := nI_le (by omega) (by omega)
    rw [q_J1_indexOfChar_4cfef, l_J1_indexOfChar_4cfef, if_pos c]
    exact ⟨fun y => absurd c y, Or.inr ⟨rfl, fun k k1 k2 => by omega⟩⟩
  | succ m ih =>
    intro i hi z hz
    obtain ⟨z, rfl⟩ : ∃ q, z = q + 1 := ⟨z - 1, by omega⟩
    have c : ¬ nI 12 ≤ nI i := nI_ge (by omega) (by decide)
    obtain ⟨i1, i2⟩ := ih (i + 1) (by omega) z (by omega)
    have es : (zsbytL.getD ((1000040 + 13) - 1000040) []).getD i 0 = sgL i := rfl
    have pv : vp_in (nI i) (zslenL.getD 13 0) := show vp_in (nI i) 12 from vp_in_nI (by omega) (by decide)
    rw [q_J1_indexOfChar_4cfef, l_J1_indexOfChar_4cfef, if_neg c, nI_clamp (by omega), es, nI_1]
    by_cases e : sgL i = v4
    · rw [if_pos e]
      exact ⟨fun _ => ⟨pv, fun y => absurd e y⟩, Or.inl ⟨i, by omega, e, rfl⟩⟩
    · rw [if_neg e]
      refine ⟨fun _ => ⟨pv, fun _ => i1⟩, ?_⟩
      rcases i2 with y | ⟨y1, y2⟩
      · exact Or.inl y
      · refine Or.inr ⟨y1, fun k k1 k2 => ?_⟩
        by_cases ek : k = i
        · rw [ek]; exact e
        · exact y2 k (by omega) k2
theorem sg_128 : ∀ c : Fin 128, ((((nI c.1).toUInt32 % 65536).toInt32).toInt8.toInt32 = nI c.1) ∧ (¬ f_J1_canEncode_9a6ad (((nI c.1).toUInt32 % 65536).toInt32) = 0) ∧ sgnB c.1 = nI c.1 ∧ (¬ f_X9_isSign (nI c.1) = 0 → ∃ k, k < 12 ∧ sgL k = nI c.1) ∧ (f_X9_isSign (nI c.1) = 0 ∨ f_X9_isSign (nI c.1) = 1) ∧ ¬ (128 : Int32) ≤ nI c.1 := by decide +kernel
theorem sg_12 : ∀ k, k < 12 → f_X9_isSign (sgL k) = 1 := by decide +kernel
theorem sg_256 : ∀ c : Fin 256, 128 ≤ c.1 → f_X9_isSign (sgnB c.1) = 0 ∧ (128 : Int32) ≤ nI c.1 := by decide +kernel
theorem isSign_eq {c : Nat} (hc : c < 256) (hN : 20 < N) : p_X6_isSign (nI c) N σ ∧ f_X6_isSign (nI c) N σ = f_X9_isSign (sgnB c) := by
  by_cases c8 : c < 128
  · obtain ⟨e1, e2, e3, e4, e5, e6⟩ := sg_128 ⟨c, c8⟩
    obtain ⟨i1, i2⟩ := ix_l (N := N) (σ := σ) (v1 := ((nI c).toUInt32 % 65536).toInt32) (v2 := 0) (v4 := nI c) 12 0 (by omega) N (by omega)
    have ef : f_J0_indexOf_0f7a4 13 (((nI c).toUInt32 % 65536).toInt32) N σ = l_J1_indexOfChar_4cfef 13 N N (((nI c).toUInt32 % 65536).toInt32) 0 (nI 12) (nI c) (nI 0) σ := by
      unfold f_J0_indexOf_0f7a4 f_J0_indexOf_7cf53 f_J1_indexOf_4cfef
      rw [if_neg e2, if_pos (by decide +kernel)]
      unfold f_J1_indexOfChar_4cfef
      rw [e1]
      rfl
    have ep : p_J0_indexOf_0f7a4 13 (((nI c).toUInt32 % 65536).toInt32) N σ := by
      unfold p_J0_indexOf_0f7a4 p_J0_indexOf_7cf53 p_J1_indexOf_4cfef p_J1_indexOfChar_4cfef
      rw [e1]
      exact fun _ _ => i1
    refine ⟨fun _ => ep, ?_⟩
    unfold f_X6_isSign
    rw [if_neg e6, ef, e3]
    rcases i2 with ⟨k, k1, k2, k3⟩ | ⟨k1, k2⟩
    · rw [k3, if_neg (nI_pos (by omega)), ← k2, sg_12 k k1]
    · rw [k1, if_pos (by decide)]
      rcases e5 with y | y
      · exact y.symm
      · obtain ⟨k, k3, k4⟩ := e4 (by rw [y]; decide)
        exact absurd k4 (k2 k (by omega) k3)
  · obtain ⟨e1, e2⟩ := sg_256 ⟨c, hc⟩ (by show 128 ≤ c; omega)
    refine ⟨fun y => absurd e2 y, ?_⟩
    unfold f_X6_isSign
    rw [if_pos e2, e1]
/-- as far as signs of a kind go -/
def Sk (tx : Nat → Nat) (nb : Nat) (P : Nat → Prop) (p s : Nat) : Prop := p ≤ s ∧ s ≤ nb ∧ (∀ i, p ≤ i → i < s → P (tx i)) ∧ (s < nb → ¬ P (tx s))
theorem sk_ex {P : Nat → Prop} : ∀ (m p : Nat), p + m = nb → ∃ s, Sk tx nb P p s := by
  intro m
  induction m with
  | zero => intro p hp; exact ⟨p, Nat.le_refl _, by omega, fun i i1 i2 => by omega, fun y => by omega⟩
  | succ m ih =>
    intro p hp
    by_cases c : P (tx p)
    · obtain ⟨s, s1, s2, s3, s4⟩ := ih (p + 1) (by omega)
      refine ⟨s, by omega, s2, fun i i1 i2 => ?_, s4⟩
      by_cases e : i = p
      · rw [e]; exact c
      · exact s3 i (by omega) i2
    · exact ⟨p, Nat.le_refl _, by omega, fun i i1 i2 => by omega, fun _ => c⟩
theorem one0 {P : Prop} [Decidable P] : ((if P then (1 : Int32) else 0) = 0) ↔ ¬ P := by
  by_cases c : P
  · rw [if_pos c]; exact ⟨fun y => absurd y (by decide), fun y => absurd c y⟩
  · rw [if_neg c]; exact ⟨fun _ => c, fun _ => rfl⟩
/-- blanks: the class -/
theorem cl_blank {s : Nat} : ∀ (m p : Nat) (σ : zS), p + m = s → Sk tx nb blB p s → TC nb tx σ → σ.1 3 3 = nI p → ∀ z, ∃ σ1, l_X6_next N (z + m + 1) 0 σ = l_X6_next N z 1 σ1 ∧ (q_X6_next N z 1 σ1 → q_X6_next N (z + m + 1) 0 σ) ∧ rfr (fun q j => q = 3 ∧ j = 3) σ σ1 ∧ σ1.1 3 3 = nI s := by
  intro m
  induction m with
  | zero =>
    intro p σ hp hs h h3 z
    obtain rfl : p = s := by omega
    have hn := h.2.2.1
    have hp1 := hs.2.1
    refine ⟨σ, ?_, fun y => ?_, rfr.rf, h3⟩
    · rw [l_X6_next, h3, h.2.1]
      by_cases c : p < nb
      · rw [if_neg (nI_ge c (by omega)), h.at c, (kn (h.2.2.2 p c).1).1, if_pos (one0.mpr (hs.2.2.2 c))]
      · rw [if_pos (nI_le (by omega) (by omega))]
    · rw [q_X6_next, h3, h.2.1]
      refine ⟨fun _ => y, fun y1 => ⟨h.po.1, h.pat, fun _ => y, fun y2 => ?_⟩⟩
      have c : p < nb := Classical.byContradiction fun w => y1 (nI_le (by omega) (by omega))
      rw [h.at c, (kn (h.2.2.2 p c).1).1] at y2
      exact absurd (one0.mpr (hs.2.2.2 c)) y2
  | succ m ih =>
    intro p σ hp hs h h3 z
    have hn := h.2.2.1
    have c : p < nb := by have := hs.2.1; omega
    have cb := hs.2.2.1 p (Nat.le_refl _) (by omega)
    have n1 : ¬ nI nb ≤ nI p := nI_ge c (by omega)
    have n2 : ¬ (if blB (tx p) then (1 : Int32) else 0) = 0 := fun y => one0.mp y cb
    have hf : rfr (fun q j => q = 3 ∧ j = 3) σ (zuI σ 3 3 (nI (p + 1))) := rfr.rf.uI (show (fun q j => q = 3 ∧ j = 3) 3 3 from ⟨rfl, rfl⟩)
    have eu : u_X6_next_h0_1 N σ = zuI σ 3 3 (nI (p + 1)) := by
      unfold u_X6_next_h0_1
      rw [h3, nI_1]
    obtain ⟨σ1, i1, i2, i3, i4⟩ := ih (p + 1) (zuI σ 3 3 (nI (p + 1))) (by omega) ⟨by omega, hs.2.1, fun i j1 j2 => hs.2.2.1 i (by omega) j2, hs.2.2.2⟩ (h.fr (hf.wk (fun q j y => ⟨y.1, by omega, by omega⟩))) (gI_h rfl rfl) z
    refine ⟨σ1, ?_, fun y => ?_, hf.tr i3, i4⟩
    · rw [show z + (m + 1) + 1 = (z + m + 1) + 1 by omega, l_X6_next, h3, h.2.1, if_neg n1, h.at c, (kn (h.2.2.2 p c).1).1, if_neg n2, eu, i1]
    · rw [show z + (m + 1) + 1 = (z + m + 1) + 1 by omega, q_X6_next, h3, h.2.1, h.at c, (kn (h.2.2.2 p c).1).1, eu]
      exact ⟨fun y1 => absurd y1 n1, fun _ => ⟨h.po.1, h.pat, fun y1 => absurd y1 n2, fun _ => i2 y⟩⟩
/-- blanks: the reference -/
theorem rf_blank {s : Nat} : ∀ (m p : Nat) (τ : zS), p + m = s → Sk tx nb blB p s → TM nb tx τ → τ.1 468 21 = nI p → ∀ z, ∃ τ1, l_X9_scan N (z + m + 1) τ = l_X9_scan N (z + 1) τ1 ∧ (q_X9_scan N (z + 1) τ1 → q_X9_scan N (z + m + 1) τ) ∧ rfr (fun q j => q = 468 ∧ j = 21) τ τ1 ∧ τ1.1 468 21 = nI s := by
  intro m
  induction m with
  | zero =>
    intro p τ hp hs h h3 z
    obtain rfl : p = s := by omega
    exact ⟨τ, rfl, fun y => y, rfr.rf, h3⟩
  | succ m ih =>
    intro p τ hp hs h h3 z
    have hn := h.2.1
    have c : p < nb := by have := hs.2.1; omega
    have cb := hs.2.2.1 p (Nat.le_refl _) (by omega)
    have n2 : ¬ (if blB (tx p) then (1 : Int32) else 0) = 0 := fun y => one0.mp y cb
    have hf : rfr (fun q j => q = 468 ∧ j = 21) τ (zuI τ 468 21 (nI (p + 1))) := rfr.rf.uI (show (fun q j => q = 468 ∧ j = 21) 468 21 from ⟨rfl, rfl⟩)
    have eu : u_X9_scan_h0_8 N τ = zuI τ 468 21 (nI (p + 1)) := by
      unfold u_X9_scan_h0_8
      rw [h3, nI_1]
    obtain ⟨τ1, i1, i2, i3, i4⟩ := ih (p + 1) (zuI τ 468 21 (nI (p + 1))) (by omega) ⟨by omega, hs.2.1, fun i j1 j2 => hs.2.2.1 i (by omega) j2, hs.2.2.2⟩ (h.fr (hf.wk (fun q j y => ⟨y.1, by omega, by omega⟩))) (gI_h rfl rfl) z
    refine ⟨τ1, ?_, fun y => ?_, hf.tr i3, i4⟩
    · rw [show z + (m + 1) + 1 = (z + m + 1) + 1 by omega, l_X9_scan, h3, h.bl c, if_neg n2, eu, i1]
    · rw [show z + (m + 1) + 1 = (z + m + 1) + 1 by omega, q_X9_scan, h3, h.bl c, eu]
      exact ⟨(h.sg (p := p) (by omega)).2.1, fun y1 => absurd y1 n2, fun _ => i2 y⟩
/-- a ( behind the word at hand -/
theorem rf_opnb {s : Nat} : ∀ (m p : Nat), p + m = s → Sk tx nb blB p s → TM nb tx τ → ∀ z, m < z → q_X9_isOpenBehind N z (nI p) τ ∧ l_X9_isOpenBehind N z (nI p) τ = if f_X9_signAt (nI s) τ = 40 then 1 else 0 := by
  intro m
  induction m with
  | zero =>
    intro p hp hs h z hz
    obtain rfl : p = s := by omega
    obtain ⟨z, rfl⟩ : ∃ q, z = q + 1 := ⟨z - 1, by omega⟩
    have e0 : f_X9_isBlank (nI p) τ = 0 := by
      by_cases c : p < nb
      · rw [h.bl c]; exact one0.mpr (hs.2.2.2 c)
      · rw [show p = nb by have := hs.2.1; omega]; exact h.bl0
    obtain ⟨g1, g2, -⟩ := h.sg (p := p) hs.2.1
    rw [q_X9_isOpenBehind, l_X9_isOpenBehind, e0, if_pos rfl]
    exact ⟨⟨g2, fun _ => g1, fun y => absurd rfl y⟩, rfl⟩
  | succ m ih =>
    intro p hp hs h z hz
    obtain ⟨z, rfl⟩ : ∃ q, z = q + 1 := ⟨z - 1, by omega⟩
    have c : p < nb := by have := hs.2.1; omega
    have cb := hs.2.2.1 p (Nat.le_refl _) (by omega)
    have n2 : ¬ (if blB (tx p) then (1 : Int32) else 0) = 0 := fun y => one0.mp y cb
    obtain ⟨i1, i2⟩ := ih (p + 1) (by omega) ⟨by omega, hs.2.1, fun i j1 j2 => hs.2.2.1 i (by omega) j2, hs.2.2.2⟩ h z (by omega)
    rw [q_X9_isOpenBehind, l_X9_isOpenBehind, h.bl c, if_neg n2, nI_1, i2]
    exact ⟨⟨(h.sg (p := p) (by omega)).2.1, fun y => absurd y n2, fun _ => i1⟩, rfl⟩
end IS
