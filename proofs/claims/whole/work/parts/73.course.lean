/-! the code of a store, told once for class and reference; one step within a FRAME; printed by wip/whole/p73.py -/
abbrev aK : Type := (Nat → Nat) × (Nat → Int32) × (Nat → Nat) × (Nat → Nat)
abbrev aR : Type := Nat × (Nat → Int32) × Nat
def cmap (o : Nat) : Nat := match o with | 0 => 0 | 1 => 1 | 2 => 3 | 3 => 4 | 4 => 5 | 5 => 6 | 6 => 7 | 7 => 2 | 8 => 12 | 9 => 8 | 10 => 9 | 11 => 10 | 12 => 11 | _ => 13
def okI (o : Nat) (x : Int32) (h : Nat) : Prop := match o with
  | 0 => h < 1680
  | 1 => h < 1680 ∧ ∃ p, p < 4 ∧ x = nI p
  | 2 => 2 ≤ h ∧ h ≤ 1680
  | 3 => 2 ≤ h ∧ h ≤ 1680
  | 4 => 2 ≤ h ∧ h ≤ 1680
  | 5 => 2 ≤ h ∧ h ≤ 1680
  | 6 => 2 ≤ h ∧ h ≤ 1680
  | 7 => 1 ≤ h ∧ h ≤ 1680
  | 9 => (2 ≤ h ∧ h ≤ 1680) ∧ ∃ p, p < 400 ∧ x = nI p
  | 10 => (2 ≤ h ∧ h ≤ 1680) ∧ ∃ p, p < 400 ∧ x = nI p
  | 11 => (2 ≤ h ∧ h ≤ 1680) ∧ ∃ p, p < 400 ∧ x = nI p
  | 12 => ∃ p, p < 400 ∧ x = nI p
  | _ => False
def aTest (o : Nat) (x : Int32) (s : aR) : aR := (if f_X9_holds (nI o) (s.2.1 (s.2.2 - 1 - 1)) (s.2.1 (s.2.2 - 1)) = 0 then x.toNatClampNeg else s.1 + 1, s.2.1, s.2.2 - 1 - 1)
def aTwo (o : Nat) (s : aR) : aR := (s.1 + 1, upd s.2.1 (s.2.2 - 1 - 1) (f_X9_made (nI o) (s.2.1 (s.2.2 - 1 - 1)) (s.2.1 (s.2.2 - 1))), s.2.2 - 1 - 1 + 1)
def aOne (o : Nat) (x : Int32) (v : Nat → Int32) (s : aR) : aR := match o with
  | 0 => (s.1 + 1, upd s.2.1 s.2.2 x, s.2.2 + 1)
  | 1 => (s.1 + 1, upd s.2.1 s.2.2 (v x.toNatClampNeg), s.2.2 + 1)
  | 7 => (s.1 + 1, upd s.2.1 (s.2.2 - 1) (-(s.2.1 (s.2.2 - 1))), s.2.2 - 1 + 1)
  | 9 => aTest 9 x s
  | 10 => aTest 10 x s
  | 11 => aTest 11 x s
  | 12 => (x.toNatClampNeg, s.2.1, s.2.2)
  | n => aTwo n s
def rfr (S : Nat → Nat → Prop) (τ τ1 : zS) : Prop := τ1.2 = τ.2 ∧ ∀ q j, ¬ S q j → τ1.1 q j = τ.1 q j
theorem rfr.rf {S : Nat → Nat → Prop} {τ : zS} : rfr S τ τ := ⟨rfl, fun _ _ _ => rfl⟩
theorem rfr.tr {S : Nat → Nat → Prop} {τ τ1 τ2 : zS} (h : rfr S τ τ1) (h1 : rfr S τ1 τ2) : rfr S τ τ2 := ⟨h1.1.trans h.1, fun q j hq => (h1.2 q j hq).trans (h.2 q j hq)⟩
theorem rfr.uI {S : Nat → Nat → Prop} {a k : Nat} {x : Int32} {τ τ1 : zS} (h : rfr S τ τ1) (hs : S a k) : rfr S τ (zuI τ1 a k x) := ⟨h.1, fun q j hq => (gI_n (fun z => hq (by rw [z.1, z.2]; exact hs))).trans (h.2 q j hq)⟩
theorem rfr.wk {S S1 : Nat → Nat → Prop} {τ τ1 : zS} (h : rfr S τ τ1) (h1 : ∀ q j, S q j → S1 q j) : rfr S1 τ τ1 := ⟨h.1, fun q j hq => h.2 q j (fun z => hq (h1 q j z))⟩
/-! the reference: frame d of task t, at the place s.1, with s.2 on the stack -/
def MR (τ : zS) (t d : Nat) (v : Nat → Int32) (s : aR) : Prop := τ.1 469 (238 + 2801 * t + 6 * (d - 1)) = nI s.1 ∧ τ.1 469 (236 + 2801 * t) = nI s.2.2 ∧ (∀ j, j < s.2.2 → τ.1 469 (597 + 2801 * t + j) = s.2.1 j) ∧ ∀ i, i < 4 → τ.1 469 (239 + 2801 * t + 6 * (d - 1) + i) = v i
def sM (t d : Nat) (q j : Nat) : Prop := q = 469 ∧ (j = 238 + 2801 * t + 6 * (d - 1) ∨ j = 236 + 2801 * t ∨ (597 + 2801 * t ≤ j ∧ j < 3037 + 2801 * t))
theorem mr_put {τ : zS} {t d pc h : Nat} {v st : Nat → Int32} {x : Int32} (ht : t ≤ 4) (hd : 1 ≤ d ∧ d ≤ 60) (hm : MR τ t d v (pc, st, h)) (hh : h < 2440) : p_X9_put (nI t) x τ ∧ MR (s_X9_put (nI t) x τ) t d v (pc, upd st h x, h + 1) ∧ rfr (sM t d) τ (s_X9_put (nI t) x τ) := by
  obtain ⟨h1, h2, h3, h4⟩ := hm
  have h2 : τ.1 469 (236 + 2801 * t) = nI h := h2
  have e : s_X9_put (nI t) x τ = zuI (zuI τ 469 (597 + 2801 * t + h) x) 469 (236 + 2801 * t) (nI (h + 1)) := by
    unfold s_X9_put u_X9_put_2 u_X9_put_1
    rw [li_n, nI_clamp (by omega), h2, sk_n, nI_clamp (by omega), gI_n (by omega), h2, nI_1]
  refine ⟨?_, ?_, ?_⟩
  · unfold p_X9_put
    rw [li_n, nI_clamp (by omega), h2, sk_n]
    exact ⟨vp_in_nI (by omega) (by decide), vp_in_nI (by omega) (by decide)⟩
  · rw [e]
    refine ⟨?_, gI_h rfl rfl, fun j hj => ?_, fun i hi => ?_⟩
    · rw [gI_n (by omega), gI_n (by omega)]
      exact h1
    · have hj : j < h + 1 := hj
      rw [gI_n (by omega)]
      show _ = upd st h x j
      by_cases c : j = h
      · rw [c, gI_h rfl rfl, pk_us]
      · rw [gI_n (by omega), pk_un c]
        exact h3 j (show j < h by omega)
    · rw [gI_n (by omega), gI_n (by omega)]
      exact h4 i hi
  · rw [e]
    exact (rfr.rf.uI (show sM t d _ _ from ⟨rfl, by omega⟩)).uI (show sM t d _ _ from ⟨rfl, by omega⟩)
theorem mr_take {τ : zS} {t d pc h : Nat} {v st : Nat → Int32} (ht : t ≤ 4) (hm : MR τ t d v (pc, st, h)) (h0 : 1 ≤ h) (hh : h ≤ 2440) : p_X9_take (nI t) τ ∧ (r_X9_take (nI t) τ).1 = st (h - 1) ∧ MR (r_X9_take (nI t) τ).2 t d v (pc, st, h - 1) ∧ rfr (sM t d) τ (r_X9_take (nI t) τ).2 := by
  obtain ⟨h1, h2, h3, h4⟩ := hm
  have h2 : τ.1 469 (236 + 2801 * t) = nI h := h2
  have e1 : u_X9_take_1 (nI t) τ = zuI τ 469 (236 + 2801 * t) (nI (h - 1)) := by
    unfold u_X9_take_1
    rw [li_n, nI_clamp (by omega), h2, nI_s1 h0]
  have e : r_X9_take (nI t) τ = (τ.1 469 (597 + 2801 * t + (h - 1)), zuI τ 469 (236 + 2801 * t) (nI (h - 1))) := by
    unfold r_X9_take
    rw [e1, li_n, nI_clamp (by omega), gI_h rfl rfl, sk_n, nI_clamp (by omega), gI_n (by omega)]
  refine ⟨?_, ?_, ?_, ?_⟩
  · unfold p_X9_take
    rw [e1, li_n, nI_clamp (by omega), gI_h rfl rfl, sk_n]
    exact ⟨vp_in_nI (by omega) (by decide), vp_in_nI (by omega) (by decide)⟩
  · rw [e]
    exact h3 (h - 1) (show h - 1 < h by omega)
  · rw [e]
    refine ⟨?_, gI_h rfl rfl, fun j hj => ?_, fun i hi => ?_⟩
    · show (zuI τ 469 (236 + 2801 * t) (nI (h - 1))).1 469 _ = _
      rw [gI_n (by omega)]
      exact h1
    · have hj : j < h - 1 := hj
      show (zuI τ 469 (236 + 2801 * t) (nI (h - 1))).1 469 _ = _
      rw [gI_n (by omega)]
      exact h3 j (show j < h by omega)
    · show (zuI τ 469 (236 + 2801 * t) (nI (h - 1))).1 469 _ = _
      rw [gI_n (by omega)]
      exact h4 i hi
  · rw [e]
    exact rfr.rf.uI (show sM t d _ _ from ⟨rfl, by omega⟩)
theorem mr_jump {τ : zS} {t d pc h pc1 : Nat} {v st : Nat → Int32} (ht : t ≤ 4) (hd : 1 ≤ d ∧ d ≤ 60) (hm : MR τ t d v (pc, st, h)) : MR (zuI τ 469 (238 + 2801 * t + 6 * (d - 1)) (nI pc1)) t d v (pc1, st, h) ∧ rfr (sM t d) τ (zuI τ 469 (238 + 2801 * t + 6 * (d - 1)) (nI pc1)) := by
  obtain ⟨h1, h2, h3, h4⟩ := hm
  refine ⟨⟨gI_h rfl rfl, ?_, fun j hj => ?_, fun i hi => ?_⟩, rfr.rf.uI (show sM t d _ _ from ⟨rfl, by omega⟩)⟩
  · rw [gI_n (by omega)]
    exact h2
  · rw [gI_n (by omega)]
    exact h3 j hj
  · rw [gI_n (by omega)]
    exact h4 i hi
theorem mr_one {τ : zS} {t d o : Nat} {x : Int32} {v : Nat → Int32} {s : aR} (ht : t ≤ 4) (hd : 1 ≤ d ∧ d ≤ 60) (hm : MR τ t d v (s.1 + 1, s.2.1, s.2.2)) (ho : okI o x s.2.2) : p_X9_doStep (nI t) (nI d) (nI o) x τ ∧ MR (s_X9_doStep (nI t) (nI d) (nI o) x τ) t d v (aOne o x v s) ∧ rfr (sM t d) τ (s_X9_doStep (nI t) (nI d) (nI o) x τ) := by
  obtain ⟨pc, st, h⟩ := s
  match o, ho with
  | 0, ho =>
    have q := mr_put (x := x) ht hd hm (show h < 2440 from Nat.lt_trans ho (by decide))
    refine ⟨⟨fun z => absurd rfl z, fun _ => q.1⟩, ?_⟩
    unfold s_X9_doStep
    rw [if_pos (show nI 0 = 0 from rfl)]
    exact q.2
  | 1, ho =>
    obtain ⟨ho1, p, hp, rfl⟩ := ho
    have ho1 : h < 1680 := ho1
    have ev : τ.1 469 (f_X9_atFrame (nI t) (nI d) (2 + nI p)).toNatClampNeg = v (nI p).toNatClampNeg := by
      rw [fr_v hd.1, nI_clamp (by omega), nI_clamp (by omega)]
      exact hm.2.2.2 p hp
    have q := mr_put (x := v (nI p).toNatClampNeg) ht hd hm (show h < 2440 by omega)
    refine ⟨⟨fun _ => ⟨fun z => absurd rfl z, fun _ => ⟨?_, ?_⟩⟩, fun z => absurd z (by decide)⟩, ?_⟩
    · rw [fr_v hd.1]
      exact vp_in_nI (by omega) (by decide)
    · rw [ev]
      exact q.1
    · unfold s_X9_doStep
      rw [if_neg (show ¬ nI 1 = 0 by decide), if_pos (show nI 1 = 1 from rfl)]
      unfold u_X9_doStep_8
      rw [ev]
      exact q.2
  | 12, ho =>
    obtain ⟨p, hp, rfl⟩ := ho
    have e : u_X9_doStep_7 (nI t) (nI d) (nI 12) (nI p) τ = zuI τ 469 (238 + 2801 * t + 6 * (d - 1)) (nI p) := by
      unfold u_X9_doStep_7
      rw [fr_1 hd.1, nI_clamp (by omega)]
    refine ⟨⟨fun _ => ⟨fun _ => ⟨fun z => absurd rfl z, fun _ => ?_⟩, fun z => absurd z (by decide)⟩, fun z => absurd z (by decide)⟩, ?_⟩
    · rw [fr_1 hd.1]
      exact vp_in_nI (by omega) (by decide)
    · unfold s_X9_doStep
      rw [if_neg (show ¬ nI 12 = 0 by decide), if_neg (show ¬ nI 12 = 1 by decide), if_pos (show nI 12 = 12 from rfl), e]
      show MR _ t d v ((nI p).toNatClampNeg, st, h) ∧ _
      rw [nI_clamp (by omega)]
      exact mr_jump ht hd hm
  | 7, ho =>
    obtain ⟨h1, h2⟩ := ho
    have h1 : 1 ≤ h := h1
    have h2 : h ≤ 1680 := h2
    obtain ⟨a1, a2, a3, a4⟩ := mr_take ht hm (show 1 ≤ h from h1) (show h ≤ 2440 by omega)
    have q := mr_put (x := -(st (h - 1))) ht hd a3 (show h - 1 < 2440 by omega)
    refine ⟨⟨fun _ => ⟨fun _ => ⟨fun _ => ⟨fun z => absurd rfl z, fun _ => ⟨a1, ?_⟩⟩, fun z => absurd z (by decide)⟩, fun z => absurd z (by decide)⟩, fun z => absurd z (by decide)⟩, ?_⟩
    · rw [a2]
      exact q.1
    · unfold s_X9_doStep
      rw [if_neg (show ¬ nI 7 = 0 by decide), if_neg (show ¬ nI 7 = 1 by decide), if_neg (show ¬ nI 7 = 12 by decide), if_pos (show nI 7 = 7 from rfl)]
      unfold u_X9_doStep_6
      rw [a2]
      exact ⟨q.2.1, a4.tr q.2.2⟩
  | 2, ho =>
    obtain ⟨h1, h2⟩ := ho
    have h1 : 2 ≤ h := h1
    have h2 : h ≤ 1680 := h2
    obtain ⟨a1, a2, a3, a4⟩ := mr_take ht hm (show 1 ≤ h by omega) (show h ≤ 2440 by omega)
    obtain ⟨b1, b2, b3, b4⟩ := mr_take ht a3 (show 1 ≤ h - 1 by omega) (show h - 1 ≤ 2440 by omega)
    have q := mr_put (x := f_X9_made (nI 2) (st (h - 1 - 1)) (st (h - 1))) ht hd b3 (show h - 1 - 1 < 2440 by omega)
    refine ⟨⟨fun _ => ⟨fun _ => ⟨fun _ => ⟨fun _ => ⟨a1, b1, fun z => absurd z (by decide), fun _ => ⟨fun _ _ _ => ⟨fun _ z => z, fun _ z => z⟩, ?_⟩⟩, fun z => absurd z (by decide)⟩, fun z => absurd z (by decide)⟩, fun z => absurd z (by decide)⟩, fun z => absurd z (by decide)⟩, ?_⟩
    · unfold u_X9_doStep_1
      rw [a2, b2]
      exact q.1
    · unfold s_X9_doStep
      rw [if_neg (show ¬ nI 2 = 0 by decide), if_neg (show ¬ nI 2 = 1 by decide), if_neg (show ¬ nI 2 = 12 by decide), if_neg (show ¬ nI 2 = 7 by decide), if_neg (show ¬ 6 < nI 2 by decide)]
      unfold u_X9_doStep_4 u_X9_doStep_1
      rw [a2, b2]
      exact ⟨q.2.1, (a4.tr b4).tr q.2.2⟩
  | 3, ho =>
    obtain ⟨h1, h2⟩ := ho
    have h1 : 2 ≤ h := h1
    have h2 : h ≤ 1680 := h2
    obtain ⟨a1, a2, a3, a4⟩ := mr_take ht hm (show 1 ≤ h by omega) (show h ≤ 2440 by omega)
    obtain ⟨b1, b2, b3, b4⟩ := mr_take ht a3 (show 1 ≤ h - 1 by omega) (show h - 1 ≤ 2440 by omega)
    have q := mr_put (x := f_X9_made (nI 3) (st (h - 1 - 1)) (st (h - 1))) ht hd b3 (show h - 1 - 1 < 2440 by omega)
    refine ⟨⟨fun _ => ⟨fun _ => ⟨fun _ => ⟨fun _ => ⟨a1, b1, fun z => absurd z (by decide), fun _ => ⟨fun _ _ _ => ⟨fun _ z => z, fun _ z => z⟩, ?_⟩⟩, fun z => absurd z (by decide)⟩, fun z => absurd z (by decide)⟩, fun z => absurd z (by decide)⟩, fun z => absurd z (by decide)⟩, ?_⟩
    · unfold u_X9_doStep_1
      rw [a2, b2]
      exact q.1
    · unfold s_X9_doStep
      rw [if_neg (show ¬ nI 3 = 0 by decide), if_neg (show ¬ nI 3 = 1 by decide), if_neg (show ¬ nI 3 = 12 by decide), if_neg (show ¬ nI 3 = 7 by decide), if_neg (show ¬ 6 < nI 3 by decide)]
      unfold u_X9_doStep_4 u_X9_doStep_1
      rw [a2, b2]
      exact ⟨q.2.1, (a4.tr b4).tr q.2.2⟩
  | 4, ho =>
    obtain ⟨h1, h2⟩ := ho
    have h1 : 2 ≤ h := h1
    have h2 : h ≤ 1680 := h2
    obtain ⟨a1, a2, a3, a4⟩ := mr_take ht hm (show 1 ≤ h by omega) (show h ≤ 2440 by omega)
    obtain ⟨b1, b2, b3, b4⟩ := mr_take ht a3 (show 1 ≤ h - 1 by omega) (show h - 1 ≤ 2440 by omega)
    have q := mr_put (x := f_X9_made (nI 4) (st (h - 1 - 1)) (st (h - 1))) ht hd b3 (show h - 1 - 1 < 2440 by omega)
    refine ⟨⟨fun _ => ⟨fun _ => ⟨fun _ => ⟨fun _ => ⟨a1, b1, fun z => absurd z (by decide), fun _ => ⟨fun _ _ _ => ⟨fun _ z => z, fun _ z => z⟩, ?_⟩⟩, fun z => absurd z (by decide)⟩, fun z => absurd z (by decide)⟩, fun z => absurd z (by decide)⟩, fun z => absurd z (by decide)⟩, ?_⟩
    · unfold u_X9_doStep_1
      rw [a2, b2]
      exact q.1
    · unfold s_X9_doStep
      rw [if_neg (show ¬ nI 4 = 0 by decide), if_neg (show ¬ nI 4 = 1 by decide), if_neg (show ¬ nI 4 = 12 by decide), if_neg (show ¬ nI 4 = 7 by decide), if_neg (show ¬ 6 < nI 4 by decide)]
      unfold u_X9_doStep_4 u_X9_doStep_1
      rw [a2, b2]
      exact ⟨q.2.1, (a4.tr b4).tr q.2.2⟩
  | 5, ho =>
    obtain ⟨h1, h2⟩ := ho
    have h1 : 2 ≤ h := h1
    have h2 : h ≤ 1680 := h2
    obtain ⟨a1, a2, a3, a4⟩ := mr_take ht hm (show 1 ≤ h by omega) (show h ≤ 2440 by omega)
    obtain ⟨b1, b2, b3, b4⟩ := mr_take ht a3 (show 1 ≤ h - 1 by omega) (show h - 1 ≤ 2440 by omega)
    have q := mr_put (x := f_X9_made (nI 5) (st (h - 1 - 1)) (st (h - 1))) ht hd b3 (show h - 1 - 1 < 2440 by omega)
    refine ⟨⟨fun _ => ⟨fun _ => ⟨fun _ => ⟨fun _ => ⟨a1, b1, fun z => absurd z (by decide), fun _ => ⟨fun _ _ _ => ⟨fun _ z => z, fun _ z => z⟩, ?_⟩⟩, fun z => absurd z (by decide)⟩, fun z => absurd z (by decide)⟩, fun z => absurd z (by decide)⟩, fun z => absurd z (by decide)⟩, ?_⟩
    · unfold u_X9_doStep_1
      rw [a2, b2]
      exact q.1
    · unfold s_X9_doStep
      rw [if_neg (show ¬ nI 5 = 0 by decide), if_neg (show ¬ nI 5 = 1 by decide), if_neg (show ¬ nI 5 = 12 by decide), if_neg (show ¬ nI 5 = 7 by decide), if_neg (show ¬ 6 < nI 5 by decide)]
      unfold u_X9_doStep_4 u_X9_doStep_1
      rw [a2, b2]
      exact ⟨q.2.1, (a4.tr b4).tr q.2.2⟩
  | 6, ho =>
    obtain ⟨h1, h2⟩ := ho
    have h1 : 2 ≤ h := h1
    have h2 : h ≤ 1680 := h2
    obtain ⟨a1, a2, a3, a4⟩ := mr_take ht hm (show 1 ≤ h by omega) (show h ≤ 2440 by omega)
    obtain ⟨b1, b2, b3, b4⟩ := mr_take ht a3 (show 1 ≤ h - 1 by omega) (show h - 1 ≤ 2440 by omega)
    have q := mr_put (x := f_X9_made (nI 6) (st (h - 1 - 1)) (st (h - 1))) ht hd b3 (show h - 1 - 1 < 2440 by omega)
    refine ⟨⟨fun _ => ⟨fun _ => ⟨fun _ => ⟨fun _ => ⟨a1, b1, fun z => absurd z (by decide), fun _ => ⟨fun _ _ _ => ⟨fun _ z => z, fun _ z => z⟩, ?_⟩⟩, fun z => absurd z (by decide)⟩, fun z => absurd z (by decide)⟩, fun z => absurd z (by decide)⟩, fun z => absurd z (by decide)⟩, ?_⟩
    · unfold u_X9_doStep_1
      rw [a2, b2]
      exact q.1
    · unfold s_X9_doStep
      rw [if_neg (show ¬ nI 6 = 0 by decide), if_neg (show ¬ nI 6 = 1 by decide), if_neg (show ¬ nI 6 = 12 by decide), if_neg (show ¬ nI 6 = 7 by decide), if_neg (show ¬ 6 < nI 6 by decide)]
      unfold u_X9_doStep_4 u_X9_doStep_1
      rw [a2, b2]
      exact ⟨q.2.1, (a4.tr b4).tr q.2.2⟩
  | 9, ho =>
    obtain ⟨⟨h1, h2⟩, p, hp, rfl⟩ := ho
    have h1 : 2 ≤ h := h1
    have h2 : h ≤ 1680 := h2
    obtain ⟨a1, a2, a3, a4⟩ := mr_take ht hm (show 1 ≤ h by omega) (show h ≤ 2440 by omega)
    obtain ⟨b1, b2, b3, b4⟩ := mr_take ht a3 (show 1 ≤ h - 1 by omega) (show h - 1 ≤ 2440 by omega)
    refine ⟨⟨fun _ => ⟨fun _ => ⟨fun _ => ⟨fun _ => ⟨a1, b1, fun _ _ => ?_, fun z => absurd (show 6 < nI 9 by decide) z⟩, fun z => absurd z (by decide)⟩, fun z => absurd z (by decide)⟩, fun z => absurd z (by decide)⟩, fun z => absurd z (by decide)⟩, ?_⟩
    · rw [fr_1 hd.1]
      exact vp_in_nI (by omega) (by decide)
    · unfold s_X9_doStep
      rw [if_neg (show ¬ nI 9 = 0 by decide), if_neg (show ¬ nI 9 = 1 by decide), if_neg (show ¬ nI 9 = 12 by decide), if_neg (show ¬ nI 9 = 7 by decide), if_pos (show 6 < nI 9 by decide)]
      unfold u_X9_doStep_3 u_X9_doStep_2 u_X9_doStep_1
      rw [a2, b2, fr_1 hd.1, nI_clamp (by omega)]
      show MR _ t d v (if f_X9_holds (nI 9) (st (h - 1 - 1)) (st (h - 1)) = 0 then (nI p).toNatClampNeg else pc + 1, st, h - 1 - 1) ∧ _
      by_cases c : f_X9_holds (nI 9) (st (h - 1 - 1)) (st (h - 1)) = 0
      · rw [if_pos c, if_pos c, nI_clamp (by omega)]
        have q := mr_jump (pc1 := p) ht hd b3
        exact ⟨q.1, (a4.tr b4).tr q.2⟩
      · rw [if_neg c, if_neg c]
        exact ⟨b3, a4.tr b4⟩
  | 10, ho =>
    obtain ⟨⟨h1, h2⟩, p, hp, rfl⟩ := ho
    have h1 : 2 ≤ h := h1
    have h2 : h ≤ 1680 := h2
    obtain ⟨a1, a2, a3, a4⟩ := mr_take ht hm (show 1 ≤ h by omega) (show h ≤ 2440 by omega)
    obtain ⟨b1, b2, b3, b4⟩ := mr_take ht a3 (show 1 ≤ h - 1 by omega) (show h - 1 ≤ 2440 by omega)
    refine ⟨⟨fun _ => ⟨fun _ => ⟨fun _ => ⟨fun _ => ⟨a1, b1, fun _ _ => ?_, fun z => absurd (show 6 < nI 10 by decide) z⟩, fun z => absurd z (by decide)⟩, fun z => absurd z (by decide)⟩, fun z => absurd z (by decide)⟩, fun z => absurd z (by decide)⟩, ?_⟩
    · rw [fr_1 hd.1]
      exact vp_in_nI (by omega) (by decide)
    · unfold s_X9_doStep
      rw [if_neg (show ¬ nI 10 = 0 by decide), if_neg (show ¬ nI 10 = 1 by decide), if_neg (show ¬ nI 10 = 12 by decide), if_neg (show ¬ nI 10 = 7 by decide), if_pos (show 6 < nI 10 by decide)]
      unfold u_X9_doStep_3 u_X9_doStep_2 u_X9_doStep_1
      rw [a2, b2, fr_1 hd.1, nI_clamp (by omega)]
      show MR _ t d v (if f_X9_holds (nI 10) (st (h - 1 - 1)) (st (h - 1)) = 0 then (nI p).toNatClampNeg else pc + 1, st, h - 1 - 1) ∧ _
      by_cases c : f_X9_holds (nI 10) (st (h - 1 - 1)) (st (h - 1)) = 0
      · rw [if_pos c, if_pos c, nI_clamp (by omega)]
        have q := mr_jump (pc1 := p) ht hd b3
        exact ⟨q.1, (a4.tr b4).tr q.2⟩
      · rw [if_neg c, if_neg c]
        exact ⟨b3, a4.tr b4⟩
  | 11, ho =>
    obtain ⟨⟨h1, h2⟩, p, hp, rfl⟩ := ho
    have h1 : 2 ≤ h := h1
    have h2 : h ≤ 1680 := h2
    obtain ⟨a1, a2, a3, a4⟩ := mr_take ht hm (show 1 ≤ h by omega) (show h ≤ 2440 by omega)
    obtain ⟨b1, b2, b3, b4⟩ := mr_take ht a3 (show 1 ≤ h - 1 by omega) (show h - 1 ≤ 2440 by omega)
    refine ⟨⟨fun _ => ⟨fun _ => ⟨fun _ => ⟨fun _ => ⟨a1, b1, fun _ _ => ?_, fun z => absurd (show 6 < nI 11 by decide) z⟩, fun z => absurd z (by decide)⟩, fun z => absurd z (by decide)⟩, fun z => absurd z (by decide)⟩, fun z => absurd z (by decide)⟩, ?_⟩
    · rw [fr_1 hd.1]
      exact vp_in_nI (by omega) (by decide)
    · unfold s_X9_doStep
      rw [if_neg (show ¬ nI 11 = 0 by decide), if_neg (show ¬ nI 11 = 1 by decide), if_neg (show ¬ nI 11 = 12 by decide), if_neg (show ¬ nI 11 = 7 by decide), if_pos (show 6 < nI 11 by decide)]
      unfold u_X9_doStep_3 u_X9_doStep_2 u_X9_doStep_1
      rw [a2, b2, fr_1 hd.1, nI_clamp (by omega)]
      show MR _ t d v (if f_X9_holds (nI 11) (st (h - 1 - 1)) (st (h - 1)) = 0 then (nI p).toNatClampNeg else pc + 1, st, h - 1 - 1) ∧ _
      by_cases c : f_X9_holds (nI 11) (st (h - 1 - 1)) (st (h - 1)) = 0
      · rw [if_pos c, if_pos c, nI_clamp (by omega)]
        have q := mr_jump (pc1 := p) ht hd b3
        exact ⟨q.1, (a4.tr b4).tr q.2⟩
      · rw [if_neg c, if_neg c]
        exact ⟨b3, a4.tr b4⟩
/-! the class: a course at a -/
def CR (σ : zS) (a d : Nat) (v : Nat → Int32) (s : aR) : Prop := σ.1 a 0 = nI d ∧ σ.1 a 1 = nI s.1 ∧ σ.1 a 2 = nI s.2.2 ∧ (∀ j, j < s.2.2 → σ.1 (a + 3) j = s.2.1 j) ∧ ∀ i, i < 4 → σ.1 (a + 1) ((d - 1) * 4 + i) = v i
def sC (a : Nat) (q j : Nat) : Prop := (q = a ∧ (j = 1 ∨ j = 2)) ∨ q = a + 3
theorem cr_put {σ : zS} {a d pc h : Nat} {v st : Nat → Int32} {x : Int32} (hm : CR σ a d v (pc, st, h)) (hh : h < 1680) : p_X0_push a x σ ∧ CR (s_X0_push a x σ) a d v (pc, upd st h x, h + 1) ∧ rfr (sC a) σ (s_X0_push a x σ) := by
  obtain ⟨h0, h1, h2, h3, h4⟩ := hm
  have h2 : σ.1 a 2 = nI h := h2
  have e : s_X0_push a x σ = zuI (zuI σ (a + 3) h x) a 2 (nI (h + 1)) := by
    unfold s_X0_push u_X0_push_2 u_X0_push_1
    rw [gI_n (by omega), h2, if_neg (nI_pos (by omega)), if_neg (show ¬ (1680 : Int32) ≤ nI h from nI_ge (b := 1680) (by omega) (by decide)), nI_clamp (by omega), nI_1]
  refine ⟨?_, ?_, ?_⟩
  · intro _ _
    rw [h2]
    exact vp_in_nI (by omega) (by decide)
  · rw [e]
    refine ⟨?_, ?_, gI_h rfl rfl, fun j hj => ?_, fun i hi => ?_⟩
    · rw [gI_n (by omega), gI_n (by omega)]
      exact h0
    · rw [gI_n (by omega), gI_n (by omega)]
      exact h1
    · have hj : j < h + 1 := hj
      rw [gI_n (by omega)]
      show _ = upd st h x j
      by_cases c : j = h
      · rw [c, gI_h rfl rfl, pk_us]
      · rw [gI_n (by omega), pk_un c]
        exact h3 j (show j < h by omega)
    · rw [gI_n (by omega), gI_n (by omega)]
      exact h4 i hi
  · rw [e]
    exact (rfr.rf.uI (show sC a _ _ from Or.inr rfl)).uI (show sC a _ _ from Or.inl ⟨rfl, Or.inr rfl⟩)
theorem cr_take {σ : zS} {a d pc h : Nat} {v st : Nat → Int32} (hm : CR σ a d v (pc, st, h)) (h0 : 1 ≤ h) (hh : h ≤ 1680) : p_X0_pop a σ ∧ (r_X0_pop a σ).1 = st (h - 1) ∧ CR (r_X0_pop a σ).2 a d v (pc, st, h - 1) ∧ rfr (sC a) σ (r_X0_pop a σ).2 := by
  obtain ⟨hd, h1, h2, h3, h4⟩ := hm
  have h2 : σ.1 a 2 = nI h := h2
  have e1 : u_X0_pop_1 a σ = zuI σ a 2 (nI (h - 1)) := by
    unfold u_X0_pop_1
    rw [h2, nI_s1 h0]
  have e : r_X0_pop a σ = (σ.1 (a + 3) (h - 1), zuI σ a 2 (nI (h - 1))) := by
    unfold r_X0_pop
    rw [e1, gI_h rfl rfl, nI_clamp (by omega), gI_n (by omega), h2, if_neg (nI_nle (by omega) (by omega)), if_pos (show nI h ≤ (1680 : Int32) from nI_le (b := 1680) (by omega) (by decide))]
  refine ⟨?_, ?_, ?_, ?_⟩
  · intro _ _
    rw [e1, gI_h rfl rfl]
    exact vp_in_nI (by omega) (by decide)
  · rw [e]
    exact h3 (h - 1) (show h - 1 < h by omega)
  · rw [e]
    refine ⟨?_, ?_, gI_h rfl rfl, fun j hj => ?_, fun i hi => ?_⟩
    · show (zuI σ a 2 (nI (h - 1))).1 a 0 = _
      rw [gI_n (by omega)]
      exact hd
    · show (zuI σ a 2 (nI (h - 1))).1 a 1 = _
      rw [gI_n (by omega)]
      exact h1
    · have hj : j < h - 1 := hj
      show (zuI σ a 2 (nI (h - 1))).1 (a + 3) _ = _
      rw [gI_n (by omega)]
      exact h3 j (show j < h by omega)
    · show (zuI σ a 2 (nI (h - 1))).1 (a + 1) _ = _
      rw [gI_n (by omega)]
      exact h4 i hi
  · rw [e]
    exact rfr.rf.uI (show sC a _ _ from Or.inl ⟨rfl, Or.inr rfl⟩)
theorem cr_jump {σ : zS} {a d pc h pc1 : Nat} {v st : Nat → Int32} (hm : CR σ a d v (pc, st, h)) : CR (zuI σ a 1 (nI pc1)) a d v (pc1, st, h) ∧ rfr (sC a) σ (zuI σ a 1 (nI pc1)) := by
  obtain ⟨h0, h1, h2, h3, h4⟩ := hm
  refine ⟨⟨?_, gI_h rfl rfl, ?_, fun j hj => ?_, fun i hi => ?_⟩, rfr.rf.uI (show sC a _ _ from Or.inl ⟨rfl, Or.inl rfl⟩)⟩
  · rw [gI_n (by omega)]
    exact h0
  · rw [gI_n (by omega)]
    exact h2
  · rw [gI_n (by omega)]
    exact h3 j hj
  · rw [gI_n (by omega)]
    exact h4 i hi
theorem cr_par {σ : zS} {a d p : Nat} {v : Nat → Int32} {s : aR} (hd : 1 ≤ d ∧ d ≤ 60) (hm : CR σ a d v s) (hp : p < 4) : f_X0_parameter a (σ.1 a 0) (nI p) σ = v p ∧ p_X0_parameter a (σ.1 a 0) (nI p) σ := by
  obtain ⟨h0, h1, h2, h3, h4⟩ := hm
  refine ⟨?_, fun _ _ _ _ => at_p (by decide)⟩
  unfold f_X0_parameter
  rw [h0, if_neg (show ¬ nI d < (1 : Int32) from nI_nlt (b := 1) hd.1 (by omega)), if_neg (nI_nlt (Nat.le_refl _) (by omega)), if_neg (nI_pos (by omega)), if_pos (show nI p < (4 : Int32) from nI_lt (b := 4) hp (by decide)), nI_s1 hd.1, (show (4 : Int32) = nI 4 from rfl), pk_mul, nI_add, at_i (by omega) (by decide)]
  exact h4 p hp
theorem cr_one {σ : zS} {a d o : Nat} {x : Int32} {v : Nat → Int32} {s : aR} (hd : 1 ≤ d ∧ d ≤ 60) (hm : CR σ a d v (s.1 + 1, s.2.1, s.2.2)) (ho : okI o x s.2.2) : p_X0_compute a (nI (cmap o)) x σ ∧ CR (s_X0_compute a (nI (cmap o)) x σ) a d v (aOne o x v s) ∧ rfr (sC a) σ (s_X0_compute a (nI (cmap o)) x σ) := by
  obtain ⟨pc, st, h⟩ := s
  match o, ho with
  | 0, ho =>
    have q := cr_put (x := x) hm (show h < 1680 from ho)
    refine ⟨⟨fun _ => q.1, fun z => absurd rfl z⟩, ?_⟩
    unfold s_X0_compute
    rw [if_pos (show nI (cmap 0) = 0 from rfl)]
    exact q.2
  | 1, ho =>
    obtain ⟨ho1, p, hp, rfl⟩ := ho
    have ho1 : h < 1680 := ho1
    obtain ⟨e1, e2⟩ := cr_par hd hm hp
    have q := cr_put (x := v p) hm (show h < 1680 from ho1)
    refine ⟨⟨fun z => absurd z (by decide), fun _ => ⟨fun _ => ⟨e2, ?_⟩, fun z => absurd rfl z⟩⟩, ?_⟩
    · rw [e1]
      exact q.1
    · unfold s_X0_compute
      rw [if_neg (show ¬ nI (cmap 1) = 0 by decide), if_pos (show nI (cmap 1) = 1 from rfl)]
      unfold u_X0_compute_2
      rw [e1]
      show CR _ a d v (pc + 1, upd st h (v (nI p).toNatClampNeg), h + 1) ∧ _
      rw [nI_clamp (by omega)]
      exact q.2
  | 12, ho =>
    obtain ⟨p, hp, rfl⟩ := ho
    refine ⟨⟨fun z => absurd z (by decide), fun _ => ⟨fun z => absurd z (by decide), fun _ => ⟨fun z => absurd z (by decide), fun _ z => absurd rfl z⟩⟩⟩, ?_⟩
    unfold s_X0_compute
    rw [if_neg (show ¬ nI (cmap 12) = 0 by decide), if_neg (show ¬ nI (cmap 12) = 1 by decide), if_neg (show ¬ nI (cmap 12) = 2 by decide), if_pos (show nI (cmap 12) = 11 from rfl)]
    show CR _ a d v ((nI p).toNatClampNeg, st, h) ∧ _
    rw [nI_clamp (by omega)]
    exact cr_jump hm
  | 7, ho =>
    obtain ⟨h1, h2⟩ := ho
    have h1 : 1 ≤ h := h1
    have h2 : h ≤ 1680 := h2
    obtain ⟨a1, a2, a3, a4⟩ := cr_take hm (show 1 ≤ h from h1) (show h ≤ 1680 from h2)
    have q := cr_put (x := -(st (h - 1))) a3 (show h - 1 < 1680 by omega)
    refine ⟨⟨fun z => absurd z (by decide), fun _ => ⟨fun z => absurd z (by decide), fun _ => ⟨fun _ => ⟨a1, ?_⟩, fun z => absurd rfl z⟩⟩⟩, ?_⟩
    · rw [a2]
      exact q.1
    · unfold s_X0_compute
      rw [if_neg (show ¬ nI (cmap 7) = 0 by decide), if_neg (show ¬ nI (cmap 7) = 1 by decide), if_pos (show nI (cmap 7) = 2 from rfl)]
      unfold u_X0_compute_4
      rw [a2]
      exact ⟨q.2.1, a4.tr q.2.2⟩
  | 2, ho =>
    obtain ⟨h1, h2⟩ := ho
    have h1 : 2 ≤ h := h1
    have h2 : h ≤ 1680 := h2
    obtain ⟨a1, a2, a3, a4⟩ := cr_take hm (show 1 ≤ h by omega) (show h ≤ 1680 from h2)
    obtain ⟨b1, b2, b3, b4⟩ := cr_take a3 (show 1 ≤ h - 1 by omega) (show h - 1 ≤ 1680 by omega)
    have eC : s_X0_compute a (nI (cmap 2)) x σ = s_X0_computeOfTwo a (nI 3) x σ := by
      unfold s_X0_compute
      rw [if_neg (show ¬ nI (cmap 2) = 0 by decide), if_neg (show ¬ nI (cmap 2) = 1 by decide), if_neg (show ¬ nI (cmap 2) = 2 by decide), if_neg (show ¬ nI (cmap 2) = 11 by decide)]
      rfl
    have pC : p_X0_computeOfTwo a (nI 3) x σ → p_X0_compute a (nI (cmap 2)) x σ := fun z => ⟨fun z => absurd z (by decide), fun _ => ⟨fun z => absurd z (by decide), fun _ => ⟨fun z => absurd z (by decide), fun _ _ => z⟩⟩⟩
    rw [eC]
    have q := cr_put (x := f_X9_made (nI 2) (st (h - 1 - 1)) (st (h - 1))) b3 (show h - 1 - 1 < 1680 by omega)
    refine ⟨pC ⟨a1, b1, ⟨fun _ => ?_, fun z => absurd rfl z⟩⟩, ?_⟩
    · unfold u_X0_computeOfTwo_1
      rw [a2, b2]
      exact q.1
    · unfold s_X0_computeOfTwo
      rw [if_pos (show nI 3 = 3 from rfl)]
      unfold u_X0_computeOfTwo_3 u_X0_computeOfTwo_1
      rw [a2, b2]
      exact ⟨q.2.1, (a4.tr b4).tr q.2.2⟩
  | 3, ho =>
    obtain ⟨h1, h2⟩ := ho
    have h1 : 2 ≤ h := h1
    have h2 : h ≤ 1680 := h2
    obtain ⟨a1, a2, a3, a4⟩ := cr_take hm (show 1 ≤ h by omega) (show h ≤ 1680 from h2)
    obtain ⟨b1, b2, b3, b4⟩ := cr_take a3 (show 1 ≤ h - 1 by omega) (show h - 1 ≤ 1680 by omega)
    have eC : s_X0_compute a (nI (cmap 3)) x σ = s_X0_computeOfTwo a (nI 4) x σ := by
      unfold s_X0_compute
      rw [if_neg (show ¬ nI (cmap 3) = 0 by decide), if_neg (show ¬ nI (cmap 3) = 1 by decide), if_neg (show ¬ nI (cmap 3) = 2 by decide), if_neg (show ¬ nI (cmap 3) = 11 by decide)]
      rfl
    have pC : p_X0_computeOfTwo a (nI 4) x σ → p_X0_compute a (nI (cmap 3)) x σ := fun z => ⟨fun z => absurd z (by decide), fun _ => ⟨fun z => absurd z (by decide), fun _ => ⟨fun z => absurd z (by decide), fun _ _ => z⟩⟩⟩
    rw [eC]
    have q := cr_put (x := f_X9_made (nI 3) (st (h - 1 - 1)) (st (h - 1))) b3 (show h - 1 - 1 < 1680 by omega)
    refine ⟨pC ⟨a1, b1, ⟨fun z => absurd z (by decide), fun _ => ⟨fun _ => ?_, fun z => absurd rfl z⟩⟩⟩, ?_⟩
    · unfold u_X0_computeOfTwo_1
      rw [a2, b2]
      exact q.1
    · unfold s_X0_computeOfTwo
      rw [if_neg (show ¬ nI 4 = 3 by decide), if_pos (show nI 4 = 4 from rfl)]
      unfold u_X0_computeOfTwo_4 u_X0_computeOfTwo_1
      rw [a2, b2]
      exact ⟨q.2.1, (a4.tr b4).tr q.2.2⟩
  | 4, ho =>
    obtain ⟨h1, h2⟩ := ho
    have h1 : 2 ≤ h := h1
    have h2 : h ≤ 1680 := h2
    obtain ⟨a1, a2, a3, a4⟩ := cr_take hm (show 1 ≤ h by omega) (show h ≤ 1680 from h2)
    obtain ⟨b1, b2, b3, b4⟩ := cr_take a3 (show 1 ≤ h - 1 by omega) (show h - 1 ≤ 1680 by omega)
    have eC : s_X0_compute a (nI (cmap 4)) x σ = s_X0_computeOfTwo a (nI 5) x σ := by
      unfold s_X0_compute
      rw [if_neg (show ¬ nI (cmap 4) = 0 by decide), if_neg (show ¬ nI (cmap 4) = 1 by decide), if_neg (show ¬ nI (cmap 4) = 2 by decide), if_neg (show ¬ nI (cmap 4) = 11 by decide)]
      rfl
    have pC : p_X0_computeOfTwo a (nI 5) x σ → p_X0_compute a (nI (cmap 4)) x σ := fun z => ⟨fun z => absurd z (by decide), fun _ => ⟨fun z => absurd z (by decide), fun _ => ⟨fun z => absurd z (by decide), fun _ _ => z⟩⟩⟩
    rw [eC]
    have q := cr_put (x := f_X9_made (nI 4) (st (h - 1 - 1)) (st (h - 1))) b3 (show h - 1 - 1 < 1680 by omega)
    refine ⟨pC ⟨a1, b1, ⟨fun z => absurd z (by decide), fun _ => ⟨fun z => absurd z (by decide), fun _ => ⟨fun _ => ?_, fun z => absurd rfl z⟩⟩⟩⟩, ?_⟩
    · unfold u_X0_computeOfTwo_1
      rw [a2, b2]
      exact q.1
    · unfold s_X0_computeOfTwo
      rw [if_neg (show ¬ nI 5 = 3 by decide), if_neg (show ¬ nI 5 = 4 by decide), if_pos (show nI 5 = 5 from rfl)]
      unfold u_X0_computeOfTwo_5 u_X0_computeOfTwo_1
      rw [a2, b2]
      exact ⟨q.2.1, (a4.tr b4).tr q.2.2⟩
  | 5, ho =>
    obtain ⟨h1, h2⟩ := ho
    have h1 : 2 ≤ h := h1
    have h2 : h ≤ 1680 := h2
    obtain ⟨a1, a2, a3, a4⟩ := cr_take hm (show 1 ≤ h by omega) (show h ≤ 1680 from h2)
    obtain ⟨b1, b2, b3, b4⟩ := cr_take a3 (show 1 ≤ h - 1 by omega) (show h - 1 ≤ 1680 by omega)
    have eC : s_X0_compute a (nI (cmap 5)) x σ = s_X0_computeOfTwo a (nI 6) x σ := by
      unfold s_X0_compute
      rw [if_neg (show ¬ nI (cmap 5) = 0 by decide), if_neg (show ¬ nI (cmap 5) = 1 by decide), if_neg (show ¬ nI (cmap 5) = 2 by decide), if_neg (show ¬ nI (cmap 5) = 11 by decide)]
      rfl
    have pC : p_X0_computeOfTwo a (nI 6) x σ → p_X0_compute a (nI (cmap 5)) x σ := fun z => ⟨fun z => absurd z (by decide), fun _ => ⟨fun z => absurd z (by decide), fun _ => ⟨fun z => absurd z (by decide), fun _ _ => z⟩⟩⟩
    rw [eC]
    have q := cr_put (x := f_X9_made (nI 5) (st (h - 1 - 1)) (st (h - 1))) b3 (show h - 1 - 1 < 1680 by omega)
    by_cases c : st (h - 1) = 0
    · have em : f_X9_made (nI 5) (st (h - 1 - 1)) (st (h - 1)) = 0 := by
        unfold f_X9_made
        rw [if_neg (show ¬ nI 5 = 2 by decide), if_neg (show ¬ nI 5 = 3 by decide), if_neg (show ¬ nI 5 = 4 by decide), if_pos (show nI 5 = 5 from rfl), if_pos c]
      rw [em] at q
      refine ⟨pC ⟨a1, b1, ⟨fun z => absurd z (by decide), fun _ => ⟨fun z => absurd z (by decide), fun _ => ⟨fun z => absurd z (by decide), fun _ => ⟨fun _ => ⟨fun z => absurd (a2.trans c) z, fun _ => q.1⟩, fun z => absurd rfl z⟩⟩⟩⟩⟩, ?_⟩
      unfold s_X0_computeOfTwo
      rw [if_neg (show ¬ nI 6 = 3 by decide), if_neg (show ¬ nI 6 = 4 by decide), if_neg (show ¬ nI 6 = 5 by decide), if_pos (show nI 6 = 6 from rfl), if_pos (a2.trans c)]
      unfold u_X0_computeOfTwo_7
      show CR _ a d v (pc + 1, upd st (h - 1 - 1) (f_X9_made (nI 5) (st (h - 1 - 1)) (st (h - 1))), h - 1 - 1 + 1) ∧ _
      rw [em]
      exact ⟨q.2.1, (a4.tr b4).tr q.2.2⟩
    · have em : f_X9_made (nI 5) (st (h - 1 - 1)) (st (h - 1)) = st (h - 1 - 1) / st (h - 1) := by
        unfold f_X9_made
        rw [if_neg (show ¬ nI 5 = 2 by decide), if_neg (show ¬ nI 5 = 3 by decide), if_neg (show ¬ nI 5 = 4 by decide), if_pos (show nI 5 = 5 from rfl), if_neg c]
      have c1 : ¬ (r_X0_pop a σ).1 = 0 := fun z => c (a2.symm.trans z)
      rw [em] at q
      refine ⟨pC ⟨a1, b1, ⟨fun z => absurd z (by decide), fun _ => ⟨fun z => absurd z (by decide), fun _ => ⟨fun z => absurd z (by decide), fun _ => ⟨fun _ => ⟨fun _ => ⟨c1, ?_⟩, fun z => absurd z c1⟩, fun z => absurd rfl z⟩⟩⟩⟩⟩, ?_⟩
      · unfold u_X0_computeOfTwo_1
        rw [a2, b2]
        exact q.1
      · unfold s_X0_computeOfTwo
        rw [if_neg (show ¬ nI 6 = 3 by decide), if_neg (show ¬ nI 6 = 4 by decide), if_neg (show ¬ nI 6 = 5 by decide), if_pos (show nI 6 = 6 from rfl), if_neg c1]
        unfold u_X0_computeOfTwo_6 u_X0_computeOfTwo_1
        rw [a2, b2]
        show CR _ a d v (pc + 1, upd st (h - 1 - 1) (f_X9_made (nI 5) (st (h - 1 - 1)) (st (h - 1))), h - 1 - 1 + 1) ∧ _
        rw [em]
        exact ⟨q.2.1, (a4.tr b4).tr q.2.2⟩
  | 6, ho =>
    obtain ⟨h1, h2⟩ := ho
    have h1 : 2 ≤ h := h1
    have h2 : h ≤ 1680 := h2
    obtain ⟨a1, a2, a3, a4⟩ := cr_take hm (show 1 ≤ h by omega) (show h ≤ 1680 from h2)
    obtain ⟨b1, b2, b3, b4⟩ := cr_take a3 (show 1 ≤ h - 1 by omega) (show h - 1 ≤ 1680 by omega)
    have eC : s_X0_compute a (nI (cmap 6)) x σ = s_X0_computeOfTwo a (nI 7) x σ := by
      unfold s_X0_compute
      rw [if_neg (show ¬ nI (cmap 6) = 0 by decide), if_neg (show ¬ nI (cmap 6) = 1 by decide), if_neg (show ¬ nI (cmap 6) = 2 by decide), if_neg (show ¬ nI (cmap 6) = 11 by decide)]
      rfl
    have pC : p_X0_computeOfTwo a (nI 7) x σ → p_X0_compute a (nI (cmap 6)) x σ := fun z => ⟨fun z => absurd z (by decide), fun _ => ⟨fun z => absurd z (by decide), fun _ => ⟨fun z => absurd z (by decide), fun _ _ => z⟩⟩⟩
    rw [eC]
    have q := cr_put (x := f_X9_made (nI 6) (st (h - 1 - 1)) (st (h - 1))) b3 (show h - 1 - 1 < 1680 by omega)
    by_cases c : st (h - 1) = 0
    · have em : f_X9_made (nI 6) (st (h - 1 - 1)) (st (h - 1)) = 0 := by
        unfold f_X9_made
        rw [if_neg (show ¬ nI 6 = 2 by decide), if_neg (show ¬ nI 6 = 3 by decide), if_neg (show ¬ nI 6 = 4 by decide), if_neg (show ¬ nI 6 = 5 by decide), if_pos c]
      rw [em] at q
      refine ⟨pC ⟨a1, b1, ⟨fun z => absurd z (by decide), fun _ => ⟨fun z => absurd z (by decide), fun _ => ⟨fun z => absurd z (by decide), fun _ => ⟨fun z => absurd z (by decide), fun _ => fun _ => ⟨fun z => absurd (a2.trans c) z, fun _ => q.1⟩⟩⟩⟩⟩⟩, ?_⟩
      unfold s_X0_computeOfTwo
      rw [if_neg (show ¬ nI 7 = 3 by decide), if_neg (show ¬ nI 7 = 4 by decide), if_neg (show ¬ nI 7 = 5 by decide), if_neg (show ¬ nI 7 = 6 by decide), if_pos (show nI 7 = 7 from rfl), if_pos (a2.trans c)]
      unfold u_X0_computeOfTwo_9
      show CR _ a d v (pc + 1, upd st (h - 1 - 1) (f_X9_made (nI 6) (st (h - 1 - 1)) (st (h - 1))), h - 1 - 1 + 1) ∧ _
      rw [em]
      exact ⟨q.2.1, (a4.tr b4).tr q.2.2⟩
    · have em : f_X9_made (nI 6) (st (h - 1 - 1)) (st (h - 1)) = st (h - 1 - 1) - st (h - 1 - 1) / st (h - 1) * st (h - 1) := by
        unfold f_X9_made
        rw [if_neg (show ¬ nI 6 = 2 by decide), if_neg (show ¬ nI 6 = 3 by decide), if_neg (show ¬ nI 6 = 4 by decide), if_neg (show ¬ nI 6 = 5 by decide), if_neg c]
      have c1 : ¬ (r_X0_pop a σ).1 = 0 := fun z => c (a2.symm.trans z)
      rw [em] at q
      refine ⟨pC ⟨a1, b1, ⟨fun z => absurd z (by decide), fun _ => ⟨fun z => absurd z (by decide), fun _ => ⟨fun z => absurd z (by decide), fun _ => ⟨fun z => absurd z (by decide), fun _ => fun _ => ⟨fun _ => ⟨c1, ?_⟩, fun z => absurd z c1⟩⟩⟩⟩⟩⟩, ?_⟩
      · unfold u_X0_computeOfTwo_1
        rw [a2, b2]
        exact q.1
      · unfold s_X0_computeOfTwo
        rw [if_neg (show ¬ nI 7 = 3 by decide), if_neg (show ¬ nI 7 = 4 by decide), if_neg (show ¬ nI 7 = 5 by decide), if_neg (show ¬ nI 7 = 6 by decide), if_pos (show nI 7 = 7 from rfl), if_neg c1]
        unfold u_X0_computeOfTwo_8 u_X0_computeOfTwo_1
        rw [a2, b2]
        show CR _ a d v (pc + 1, upd st (h - 1 - 1) (f_X9_made (nI 6) (st (h - 1 - 1)) (st (h - 1))), h - 1 - 1 + 1) ∧ _
        rw [em]
        exact ⟨q.2.1, (a4.tr b4).tr q.2.2⟩
  | 9, ho =>
    obtain ⟨⟨h1, h2⟩, p, hp, hx⟩ := ho
    have h1 : 2 ≤ h := h1
    have h2 : h ≤ 1680 := h2
    obtain ⟨a1, a2, a3, a4⟩ := cr_take hm (show 1 ≤ h by omega) (show h ≤ 1680 from h2)
    obtain ⟨b1, b2, b3, b4⟩ := cr_take a3 (show 1 ≤ h - 1 by omega) (show h - 1 ≤ 1680 by omega)
    have eC : s_X0_compute a (nI (cmap 9)) x σ = s_X0_computeOfTwo a (nI 8) x σ := by
      unfold s_X0_compute
      rw [if_neg (show ¬ nI (cmap 9) = 0 by decide), if_neg (show ¬ nI (cmap 9) = 1 by decide), if_neg (show ¬ nI (cmap 9) = 2 by decide), if_neg (show ¬ nI (cmap 9) = 11 by decide)]
      rfl
    have pC : p_X0_computeOfTwo a (nI 8) x σ → p_X0_compute a (nI (cmap 9)) x σ := fun z => ⟨fun z => absurd z (by decide), fun _ => ⟨fun z => absurd z (by decide), fun _ => ⟨fun z => absurd z (by decide), fun _ _ => z⟩⟩⟩
    rw [eC]
    refine ⟨pC ⟨a1, b1, ⟨fun z => absurd z (by decide), fun _ => ⟨fun z => absurd z (by decide), fun _ => ⟨fun z => absurd z (by decide), fun _ => ⟨fun z => absurd z (by decide), fun _ => fun z => absurd z (by decide)⟩⟩⟩⟩⟩, ?_⟩
    unfold s_X0_computeOfTwo
    rw [if_neg (show ¬ nI 8 = 3 by decide), if_neg (show ¬ nI 8 = 4 by decide), if_neg (show ¬ nI 8 = 5 by decide), if_neg (show ¬ nI 8 = 6 by decide), if_neg (show ¬ nI 8 = 7 by decide), if_pos (show nI 8 = 8 from rfl)]
    show (CR _ a d v (if f_X9_holds (nI 9) (st (h - 1 - 1)) (st (h - 1)) = 0 then x.toNatClampNeg else pc + 1, st, h - 1 - 1)) ∧ _
    have j1 := cr_jump (pc1 := p) b3
    have j2 := cr_jump (pc1 := pc + 1) b3
    have hp1 : (r_X0_pop a (r_X0_pop a σ).2).2.1 a 1 = nI (pc + 1) := b3.2.1
    have ec : ((r_X0_pop a σ).1 ≤ (r_X0_pop a (r_X0_pop a σ).2).1) ↔ (st (h - 1) ≤ st (h - 1 - 1)) := by rw [a2, b2]
    by_cases c : st (h - 1) ≤ st (h - 1 - 1)
    · have eh : f_X9_holds (nI 9) (st (h - 1 - 1)) (st (h - 1)) = 0 := by
        unfold f_X9_holds
        rw [if_pos (show nI 9 = 9 from rfl), if_pos c]
      rw [eh, if_pos (show (0 : Int32) = 0 from rfl)]
      unfold u_X0_computeOfTwo_1
      rw [if_pos (ec.mpr c)]
      show CR (zuI (r_X0_pop a (r_X0_pop a σ).2).2 a 1 x) a d v (x.toNatClampNeg, st, h - 1 - 1) ∧ rfr (sC a) σ (zuI (r_X0_pop a (r_X0_pop a σ).2).2 a 1 x)
      rw [hx, nI_clamp (by omega)]
      exact ⟨j1.1, (a4.tr b4).tr j1.2⟩
    · have eh : f_X9_holds (nI 9) (st (h - 1 - 1)) (st (h - 1)) = 1 := by
        unfold f_X9_holds
        rw [if_pos (show nI 9 = 9 from rfl), if_neg c]
      rw [eh, if_neg (show ¬ (1 : Int32) = 0 by decide)]
      unfold u_X0_computeOfTwo_1
      rw [if_neg (fun z => c (ec.mp z))]
      show CR (zuI (r_X0_pop a (r_X0_pop a σ).2).2 a 1 ((r_X0_pop a (r_X0_pop a σ).2).2.1 a 1)) a d v (pc + 1, st, h - 1 - 1) ∧ rfr (sC a) σ (zuI (r_X0_pop a (r_X0_pop a σ).2).2 a 1 ((r_X0_pop a (r_X0_pop a σ).2).2.1 a 1))
      rw [hp1]
      exact ⟨j2.1, (a4.tr b4).tr j2.2⟩
  | 10, ho =>
    obtain ⟨⟨h1, h2⟩, p, hp, hx⟩ := ho
    have h1 : 2 ≤ h := h1
    have h2 : h ≤ 1680 := h2
    obtain ⟨a1, a2, a3, a4⟩ := cr_take hm (show 1 ≤ h by omega) (show h ≤ 1680 from h2)
    obtain ⟨b1, b2, b3, b4⟩ := cr_take a3 (show 1 ≤ h - 1 by omega) (show h - 1 ≤ 1680 by omega)
    have eC : s_X0_compute a (nI (cmap 10)) x σ = s_X0_computeOfTwo a (nI 9) x σ := by
      unfold s_X0_compute
      rw [if_neg (show ¬ nI (cmap 10) = 0 by decide), if_neg (show ¬ nI (cmap 10) = 1 by decide), if_neg (show ¬ nI (cmap 10) = 2 by decide), if_neg (show ¬ nI (cmap 10) = 11 by decide)]
      rfl
    have pC : p_X0_computeOfTwo a (nI 9) x σ → p_X0_compute a (nI (cmap 10)) x σ := fun z => ⟨fun z => absurd z (by decide), fun _ => ⟨fun z => absurd z (by decide), fun _ => ⟨fun z => absurd z (by decide), fun _ _ => z⟩⟩⟩
    rw [eC]
    refine ⟨pC ⟨a1, b1, ⟨fun z => absurd z (by decide), fun _ => ⟨fun z => absurd z (by decide), fun _ => ⟨fun z => absurd z (by decide), fun _ => ⟨fun z => absurd z (by decide), fun _ => fun z => absurd z (by decide)⟩⟩⟩⟩⟩, ?_⟩
    unfold s_X0_computeOfTwo
    rw [if_neg (show ¬ nI 9 = 3 by decide), if_neg (show ¬ nI 9 = 4 by decide), if_neg (show ¬ nI 9 = 5 by decide), if_neg (show ¬ nI 9 = 6 by decide), if_neg (show ¬ nI 9 = 7 by decide), if_neg (show ¬ nI 9 = 8 by decide), if_pos (show nI 9 = 9 from rfl)]
    show (CR _ a d v (if f_X9_holds (nI 10) (st (h - 1 - 1)) (st (h - 1)) = 0 then x.toNatClampNeg else pc + 1, st, h - 1 - 1)) ∧ _
    have j1 := cr_jump (pc1 := p) b3
    have j2 := cr_jump (pc1 := pc + 1) b3
    have hp1 : (r_X0_pop a (r_X0_pop a σ).2).2.1 a 1 = nI (pc + 1) := b3.2.1
    have ec : ((r_X0_pop a (r_X0_pop a σ).2).1 ≤ (r_X0_pop a σ).1) ↔ (st (h - 1 - 1) ≤ st (h - 1)) := by rw [a2, b2]
    by_cases c : st (h - 1 - 1) ≤ st (h - 1)
    · have eh : f_X9_holds (nI 10) (st (h - 1 - 1)) (st (h - 1)) = 0 := by
        unfold f_X9_holds
        rw [if_neg (show ¬ nI 10 = 9 by decide), if_pos (show nI 10 = 10 from rfl), if_pos c]
      rw [eh, if_pos (show (0 : Int32) = 0 from rfl)]
      unfold u_X0_computeOfTwo_1
      rw [if_pos (ec.mpr c)]
      show CR (zuI (r_X0_pop a (r_X0_pop a σ).2).2 a 1 x) a d v (x.toNatClampNeg, st, h - 1 - 1) ∧ rfr (sC a) σ (zuI (r_X0_pop a (r_X0_pop a σ).2).2 a 1 x)
      rw [hx, nI_clamp (by omega)]
      exact ⟨j1.1, (a4.tr b4).tr j1.2⟩
    · have eh : f_X9_holds (nI 10) (st (h - 1 - 1)) (st (h - 1)) = 1 := by
        unfold f_X9_holds
        rw [if_neg (show ¬ nI 10 = 9 by decide), if_pos (show nI 10 = 10 from rfl), if_neg c]
      rw [eh, if_neg (show ¬ (1 : Int32) = 0 by decide)]
      unfold u_X0_computeOfTwo_1
      rw [if_neg (fun z => c (ec.mp z))]
      show CR (zuI (r_X0_pop a (r_X0_pop a σ).2).2 a 1 ((r_X0_pop a (r_X0_pop a σ).2).2.1 a 1)) a d v (pc + 1, st, h - 1 - 1) ∧ rfr (sC a) σ (zuI (r_X0_pop a (r_X0_pop a σ).2).2 a 1 ((r_X0_pop a (r_X0_pop a σ).2).2.1 a 1))
      rw [hp1]
      exact ⟨j2.1, (a4.tr b4).tr j2.2⟩
  | 11, ho =>
    obtain ⟨⟨h1, h2⟩, p, hp, hx⟩ := ho
    have h1 : 2 ≤ h := h1
    have h2 : h ≤ 1680 := h2
    obtain ⟨a1, a2, a3, a4⟩ := cr_take hm (show 1 ≤ h by omega) (show h ≤ 1680 from h2)
    obtain ⟨b1, b2, b3, b4⟩ := cr_take a3 (show 1 ≤ h - 1 by omega) (show h - 1 ≤ 1680 by omega)
    have eC : s_X0_compute a (nI (cmap 11)) x σ = s_X0_computeOfTwo a (nI 10) x σ := by
      unfold s_X0_compute
      rw [if_neg (show ¬ nI (cmap 11) = 0 by decide), if_neg (show ¬ nI (cmap 11) = 1 by decide), if_neg (show ¬ nI (cmap 11) = 2 by decide), if_neg (show ¬ nI (cmap 11) = 11 by decide)]
      rfl
    have pC : p_X0_computeOfTwo a (nI 10) x σ → p_X0_compute a (nI (cmap 11)) x σ := fun z => ⟨fun z => absurd z (by decide), fun _ => ⟨fun z => absurd z (by decide), fun _ => ⟨fun z => absurd z (by decide), fun _ _ => z⟩⟩⟩
    rw [eC]
    refine ⟨pC ⟨a1, b1, ⟨fun z => absurd z (by decide), fun _ => ⟨fun z => absurd z (by decide), fun _ => ⟨fun z => absurd z (by decide), fun _ => ⟨fun z => absurd z (by decide), fun _ => fun z => absurd z (by decide)⟩⟩⟩⟩⟩, ?_⟩
    unfold s_X0_computeOfTwo
    rw [if_neg (show ¬ nI 10 = 3 by decide), if_neg (show ¬ nI 10 = 4 by decide), if_neg (show ¬ nI 10 = 5 by decide), if_neg (show ¬ nI 10 = 6 by decide), if_neg (show ¬ nI 10 = 7 by decide), if_neg (show ¬ nI 10 = 8 by decide), if_neg (show ¬ nI 10 = 9 by decide)]
    show (CR _ a d v (if f_X9_holds (nI 11) (st (h - 1 - 1)) (st (h - 1)) = 0 then x.toNatClampNeg else pc + 1, st, h - 1 - 1)) ∧ _
    have j1 := cr_jump (pc1 := p) b3
    have j2 := cr_jump (pc1 := pc + 1) b3
    have hp1 : (r_X0_pop a (r_X0_pop a σ).2).2.1 a 1 = nI (pc + 1) := b3.2.1
    have ec : ((r_X0_pop a (r_X0_pop a σ).2).1 = (r_X0_pop a σ).1) ↔ (st (h - 1 - 1) = st (h - 1)) := by rw [a2, b2]
    by_cases c : st (h - 1 - 1) = st (h - 1)
    · have eh : f_X9_holds (nI 11) (st (h - 1 - 1)) (st (h - 1)) = 1 := by
        unfold f_X9_holds
        rw [if_neg (show ¬ nI 11 = 9 by decide), if_neg (show ¬ nI 11 = 10 by decide), if_pos c]
      rw [eh, if_neg (show ¬ (1 : Int32) = 0 by decide)]
      unfold u_X0_computeOfTwo_1
      rw [if_pos (ec.mpr c)]
      show CR (zuI (r_X0_pop a (r_X0_pop a σ).2).2 a 1 ((r_X0_pop a (r_X0_pop a σ).2).2.1 a 1)) a d v (pc + 1, st, h - 1 - 1) ∧ rfr (sC a) σ (zuI (r_X0_pop a (r_X0_pop a σ).2).2 a 1 ((r_X0_pop a (r_X0_pop a σ).2).2.1 a 1))
      rw [hp1]
      exact ⟨j2.1, (a4.tr b4).tr j2.2⟩
    · have eh : f_X9_holds (nI 11) (st (h - 1 - 1)) (st (h - 1)) = 0 := by
        unfold f_X9_holds
        rw [if_neg (show ¬ nI 11 = 9 by decide), if_neg (show ¬ nI 11 = 10 by decide), if_neg c]
      rw [eh, if_pos (show (0 : Int32) = 0 from rfl)]
      unfold u_X0_computeOfTwo_1
      rw [if_neg (fun z => c (ec.mp z))]
      show CR (zuI (r_X0_pop a (r_X0_pop a σ).2).2 a 1 x) a d v (x.toNatClampNeg, st, h - 1 - 1) ∧ rfr (sC a) σ (zuI (r_X0_pop a (r_X0_pop a σ).2).2 a 1 x)
      rw [hx, nI_clamp (by omega)]
      exact ⟨j1.1, (a4.tr b4).tr j1.2⟩
