/-! tokens looked at, code laid, what waits -/
section IS
variable {nb N q b : Nat} {tx : Nat → Nat} {σ σ1 σ2 τ τ1 τ2 : zS} {K K1 : aK}
/-- looking at a token -/
theorem TKs.tok {s e kd v w : Nat} (h : TKs tx nb s e kd v w σ τ) (h0 : kd < 400) : (τ.1 468 22 = 3 ↔ kd = 302) ∧ (τ.1 468 22 = 0 ↔ kd = 300) := by
  have h12 := h.2.2.2.2.2.2.2.2.2.2.2
  unfold RK at h12
  rcases h12 with ⟨y1, y2⟩ | ⟨y1, y2⟩ | ⟨y1, y2, y3⟩ | ⟨y1, y2, y3⟩ | ⟨y1, y2, y3, y4⟩ | ⟨y1, y2, y3, y4⟩ <;> (first | rw [y2] | rw [y3]) <;> refine ⟨⟨fun z => ?_, fun z => ?_⟩, ⟨fun z => ?_, fun z => ?_⟩⟩ <;> first | rfl | omega | (exact absurd z (by decide))
theorem TKs.kd {s e kd v w : Nat} (h : TKs tx nb s e kd v w σ τ) : kd < 323 := by
  have h12 := h.2.2.2.2.2.2.2.2.2.2.2
  unfold RK at h12
  omega
theorem rk_at {s e kd v w c : Nat} (h : TKs tx nb s e kd v w σ τ) (g : TM nb tx τ) (h0 : τ.1 468 25 = 0) (hc : c < 128) : p_X9_isAt (nI c) τ ∧ f_X9_isAt (nI c) τ = (if kd = c then 1 else 0) := by
  have hs : s ≤ nb := by have := h.1; have := h.2.1; omega
  have e21 := h.2.2.2.2.2.2.2.2.2.1
  have h12 := h.2.2.2.2.2.2.2.2.2.2.2
  obtain ⟨g1, g2, g3, g4⟩ := g.sg (p := s) hs
  refine ⟨fun _ _ => by rw [e21]; exact g1, ?_⟩
  unfold f_X9_isAt
  rw [h0, if_pos rfl, e21]
  unfold RK at h12
  have no : ¬ τ.1 468 22 = 4 → ¬ kd = c → (if τ.1 468 22 = 4 then (if f_X9_signAt (nI s) τ = nI c then (1 : Int32) else 0) else 0) = (if kd = c then 1 else 0) := fun y1 y2 => by rw [if_neg y1, if_neg y2]
  rcases h12 with ⟨y1, y2⟩ | ⟨y1, y2⟩ | ⟨y1, y2, y3⟩ | ⟨y1, y2, y3⟩ | ⟨y1, y2, y3, y4⟩ | ⟨y1, y2, y3, y4⟩
  · exact no (by rw [y2]; decide) (by omega)
  · exact no (by rw [y2]; decide) (by omega)
  · exact no (by rw [y2]; decide) (by omega)
  · exact no (by rw [y2]; decide) (by omega)
  · exact no (by rw [y3]; decide) (by omega)
  · rw [y2, if_pos rfl, g3 y3, y4, show sgnB kd = nI kd from if_pos y1]
    by_cases k : kd = c
    · rw [if_pos k, k, if_pos rfl]
    · rw [if_neg k, if_neg (fun z => k ((nI_eq (by omega) (by omega)).mp z))]
theorem rk_word {s e kd v w c : Nat} (h : TKs tx nb s e kd v w σ τ) (h0 : τ.1 468 25 = 0) (hc : c < 13) : f_X9_isWord (nI c) τ = (if kd = 310 + c then 1 else 0) := by
  have h12 := h.2.2.2.2.2.2.2.2.2.2.2
  unfold f_X9_isWord
  rw [h0, if_pos rfl]
  unfold RK at h12
  have no : ¬ τ.1 468 22 = 2 → ¬ kd = 310 + c → (if τ.1 468 22 = 2 then (if τ.1 468 24 = nI c then (1 : Int32) else 0) else 0) = (if kd = 310 + c then 1 else 0) := fun y1 y2 => by rw [if_neg y1, if_neg y2]
  rcases h12 with ⟨y1, y2⟩ | ⟨y1, y2⟩ | ⟨y1, y2, y3⟩ | ⟨y1, y2, y3⟩ | ⟨y1, y2, y3, y4⟩ | ⟨y1, y2, y3, y4⟩
  · exact no (by rw [y2]; decide) (by omega)
  · exact no (by rw [y2]; decide) (by omega)
  · exact no (by rw [y2]; decide) (by omega)
  · rw [y2, if_pos rfl, y3, if_neg (by omega : ¬ kd = 310 + c), if_neg (fun z => nI_pos (n := c) (by omega) (by rw [← z]; decide))]
  · rw [y3, if_pos rfl, y4]
    by_cases k : kd = 310 + c
    · rw [if_pos k, k, Nat.add_sub_cancel_left, if_pos rfl]
    · rw [if_neg k, if_neg (fun z => k (by have := (nI_eq (by omega) (by omega)).mp z; omega))]
  · exact no (by rw [y2]; decide) (by omega)
theorem rk_name {s e kd v w : Nat} (h : TKs tx nb s e kd v w σ τ) (h0 : τ.1 468 25 = 0) : f_X9_isName τ = (if kd = 303 then 1 else 0) := by
  have h12 := h.2.2.2.2.2.2.2.2.2.2.2
  unfold f_X9_isName
  rw [h0, if_pos rfl]
  unfold RK at h12
  have no : ¬ τ.1 468 22 = 2 → ¬ kd = 303 → (if τ.1 468 22 = 2 then (if τ.1 468 24 = -1 then (1 : Int32) else 0) else 0) = (if kd = 303 then 1 else 0) := fun y1 y2 => by rw [if_neg y1, if_neg y2]
  rcases h12 with ⟨y1, y2⟩ | ⟨y1, y2⟩ | ⟨y1, y2, y3⟩ | ⟨y1, y2, y3⟩ | ⟨y1, y2, y3, y4⟩ | ⟨y1, y2, y3, y4⟩
  · exact no (by rw [y2]; decide) (by omega)
  · exact no (by rw [y2]; decide) (by omega)
  · exact no (by rw [y2]; decide) (by omega)
  · rw [y2, if_pos rfl, y3, if_pos rfl, if_pos y1]
  · rw [y3, if_pos rfl, y4, if_neg (by omega : ¬ kd = 303), if_neg (fun z => nI_pos (n := kd - 310) (by omega) (by rw [z]; decide))]
  · exact no (by rw [y2]; decide) (by omega)
/-- with a fault found nothing is at hand -/
theorem rk_found {c : Int32} (h : ¬ τ.1 468 25 = 0) : f_X9_isAt c τ = 0 ∧ p_X9_isAt c τ ∧ f_X9_isWord c τ = 0 ∧ f_X9_isName τ = 0 := by
  refine ⟨?_, fun y => absurd y h, ?_, ?_⟩
  · unfold f_X9_isAt; rw [if_neg h]
  · unfold f_X9_isWord; rw [if_neg h]
  · unfold f_X9_isName; rw [if_neg h]
theorem rf_fail {c : Nat} (h0 : τ.1 468 25 = 0) : s_X9_fail (nI c) τ = zuI (zuI τ 468 25 (nI c)) 468 26 (τ.1 468 21) := by
  unfold s_X9_fail u_X9_fail_2 u_X9_fail_1
  rw [h0, if_pos (by decide), gI_n (by omega)]
theorem rf_fail2 {x : Int32} {c : Nat} (h1 : 1 ≤ c) (h2 : c ≤ 5) (h0 : τ.1 468 25 = nI c) : s_X9_fail x τ = τ := by
  unfold s_X9_fail
  rw [h0, if_neg (nI_nle (by omega) (by omega))]
/-- code, two lengths of one -/
def CKc (σ : zS) (q : Nat) (K : aK) (L : Nat) : Prop := (∀ i, i < L → σ.1 (q + 5) i = nI (cmap (K.1 i)) ∧ σ.1 (q + 6) i = K.2.1 i) ∧ σ.1 q 9 = nI L
def MKc (τ : zS) (b : Nat) (K : aK) (L : Nat) : Prop := (∀ i, i < L → τ.1 484 (800 * b + 2 * i) = nI (K.1 i) ∧ τ.1 484 (800 * b + 2 * i + 1) = K.2.1 i) ∧ τ.1 479 b = nI L
def agK (K K1 : aK) (L : Nat) : Prop := (∀ i, i < L → K1.1 i = K.1 i ∧ K1.2.1 i = K.2.1 i) ∧ K1.2.2 = K.2.2
theorem agK.rf {L : Nat} : agK K K L := ⟨fun _ _ => ⟨rfl, rfl⟩, rfl⟩
theorem agK.tr {K2 : aK} {L L1 : Nat} (h : agK K K1 L) (g : agK K1 K2 L1) (hl : L ≤ L1) : agK K K2 L := ⟨fun i hi => ⟨(g.1 i (by omega)).1.trans (h.1 i hi).1, (g.1 i (by omega)).2.trans (h.1 i hi).2⟩, g.2.trans h.2⟩
theorem CKc.ag {L : Nat} (h : CKc σ q K L) (g : agK K K1 L) : CKc σ q K1 L := ⟨fun i hi => by rw [(g.1 i hi).1, (g.1 i hi).2]; exact h.1 i hi, h.2⟩
theorem MKc.ag {L L1 : Nat} (h : MKc τ b K L) (g : agK K K1 L1) (hl : L ≤ L1) : MKc τ b K1 L := ⟨fun i hi => by rw [(g.1 i (by omega)).1, (g.1 i (by omega)).2]; exact h.1 i hi, h.2⟩
def seK (K : aK) (L o : Nat) (x : Int32) : aK := (fun i => if i = L then o else K.1 i, fun i => if i = L then x else K.2.1 i, K.2.2)
theorem seK_ag {L o : Nat} {x : Int32} : agK K (seK K L o x) L := ⟨fun i hi => ⟨if_neg (by omega), if_neg (by omega)⟩, rfl⟩
theorem seK_o {L o : Nat} {x : Int32} : (seK K L o x).1 L = o ∧ (seK K L o x).2.1 L = x := ⟨if_pos rfl, if_pos rfl⟩
theorem CKc.eq {L : Nat} (h : CKc σ q K L) (h1 : ∀ Q j, (Q = q + 5 ∨ Q = q + 6 ∨ (Q = q ∧ j = 9)) → σ1.1 Q j = σ.1 Q j) : CKc σ1 q K L := ⟨fun i hi => ⟨(h1 _ _ (by omega)).trans (h.1 i hi).1, (h1 _ _ (by omega)).trans (h.1 i hi).2⟩, (h1 _ _ (by omega)).trans h.2⟩
theorem MKc.eq {L : Nat} (h : MKc τ b K L) (h1 : ∀ Q j, (Q = 484 ∨ Q = 479) → τ1.1 Q j = τ.1 Q j) : MKc τ1 b K L := ⟨fun i hi => ⟨(h1 _ _ (by omega)).trans (h.1 i hi).1, (h1 _ _ (by omega)).trans (h.1 i hi).2⟩, (h1 _ _ (by omega)).trans h.2⟩
def sEm (q Q j : Nat) : Prop := (Q = q ∧ j = 9) ∨ Q = q + 5 ∨ Q = q + 6
def sLa (b Q j : Nat) : Prop := (Q = 479 ∧ j = b) ∨ (Q = 484 ∧ 800 * b ≤ j ∧ j < 800 * b + 800)
theorem cl_emit {L : Nat} {x y : Int32} (h : CKc σ q K L) (hL : L < 400) (hx : x = nI (cmap (K.1 L))) (hy : y = K.2.1 L) : p_X2_emit q x y σ ∧ (r_X2_emit q x y σ).1 = nI L ∧ CKc (r_X2_emit q x y σ).2 q K (L + 1) ∧ rfr (sEm q) σ (r_X2_emit q x y σ).2 := by
  have c : ¬ (400 : Int32) ≤ nI L := nI_ge (b := 400) hL (by decide)
  have e1 : u_X2_emit_1 q x y σ = zuI σ (q + 5) L x := by
    unfold u_X2_emit_1
    rw [h.2, put_i hL (by decide)]
  have e2 : u_X2_emit_2 q x y σ = zuI (zuI σ (q + 5) L x) (q + 6) L y := by
    unfold u_X2_emit_2
    rw [e1, h.2, put_i hL (by decide)]
  have e3 : u_X2_emit_3 q x y σ = zuI (zuI (zuI σ (q + 5) L x) (q + 6) L y) q 9 (nI (L + 1)) := by
    unfold u_X2_emit_3
    rw [e2, gI_n (by omega), gI_n (by omega), h.2, nI_1]
  have er : r_X2_emit q x y σ = (nI L, zuI (zuI (zuI σ (q + 5) L x) (q + 6) L y) q 9 (nI (L + 1))) := by
    unfold r_X2_emit
    rw [h.2, if_neg c, e3]
  rw [er]
  refine ⟨fun _ => ⟨put_p (by decide), put_p (by decide)⟩, rfl, ⟨fun i hi => ?_, gI_h rfl rfl⟩, ((rfr.rf.uI (show sEm q (q + 5) L from Or.inr (Or.inl rfl))).uI (Or.inr (Or.inr rfl))).uI (Or.inl ⟨rfl, rfl⟩)⟩
  by_cases e : i = L
  · subst e
    refine ⟨?_, ?_⟩
    · rw [gI_n (by omega), gI_n (by omega), gI_h rfl rfl, hx]
    · rw [gI_n (by omega), gI_h rfl rfl, hy]
  · refine ⟨?_, ?_⟩
    · rw [gI_n (by omega), gI_n (by omega), gI_n (by omega)]; exact (h.1 i (by omega)).1
    · rw [gI_n (by omega), gI_n (by omega), gI_n (by omega)]; exact (h.1 i (by omega)).2
theorem rf_lay {L : Nat} {x y : Int32} (h : MKc τ b K L) (hb : b < 2) (hL : L < 400) (hx : x = nI (K.1 L)) (hy : y = K.2.1 L) : p_X9_lay (nI b) x y τ ∧ MKc (s_X9_lay (nI b) x y τ) b K (L + 1) ∧ rfr (sLa b) τ (s_X9_lay (nI b) x y τ) := by
  have cb : (nI b).toNatClampNeg = b := nI_clamp (by omega)
  have ei : (800 : Int32) * nI b + 2 * nI L = nI (800 * b + 2 * L) := by
    rw [show (800 : Int32) = nI 800 from rfl, show (2 : Int32) = nI 2 from rfl, pk_mul, pk_mul, nI_add]
  have e1 : u_X9_lay_1 (nI b) x y τ = zuI τ 484 (800 * b + 2 * L) x := by
    unfold u_X9_lay_1
    rw [cb, h.2, ei, nI_clamp (by omega)]
  have e2 : u_X9_lay_2 (nI b) x y τ = zuI (zuI τ 484 (800 * b + 2 * L) x) 484 (800 * b + 2 * L + 1) y := by
    unfold u_X9_lay_2
    rw [e1, cb, gI_n (by omega), h.2, ei, nI_1, nI_clamp (by omega)]
  have e3 : s_X9_lay (nI b) x y τ = zuI (zuI (zuI τ 484 (800 * b + 2 * L) x) 484 (800 * b + 2 * L + 1) y) 479 b (nI (L + 1)) := by
    unfold s_X9_lay u_X9_lay_3
    rw [e2, cb, gI_n (by omega), gI_n (by omega), h.2, nI_1]
  rw [e3]
  refine ⟨⟨vp_in_nI hb (by decide), ?_, ?_⟩, ⟨fun i hi => ?_, gI_h rfl rfl⟩, ((rfr.rf.uI (show sLa b 484 (800 * b + 2 * L) from Or.inr ⟨rfl, by omega, by omega⟩)).uI (Or.inr ⟨rfl, by omega, by omega⟩)).uI (Or.inl ⟨rfl, rfl⟩)⟩
  · rw [cb, h.2, ei]
    exact vp_in_nI (by omega) (by decide)
  · rw [e1, cb, gI_n (by omega), h.2, ei, nI_1]
    exact vp_in_nI (by omega) (by decide)
  · by_cases e : i = L
    · subst e
      refine ⟨?_, ?_⟩
      · rw [gI_n (by omega), gI_n (by omega), gI_h rfl rfl, hx]
      · rw [gI_n (by omega), gI_h rfl rfl, hy]
    · refine ⟨?_, ?_⟩
      · rw [gI_n (by omega), gI_n (by omega), gI_n (by omega)]; exact (h.1 i (by omega)).1
      · rw [gI_n (by omega), gI_n (by omega), gI_n (by omega)]; exact (h.1 i (by omega)).2
/-- what waits -/
def SKs (τ : zS) (wt : Nat) (W : Nat → Nat) : Prop := τ.1 468 37 = nI wt ∧ wt ≤ 100 ∧ ∀ i, i < wt → W i < 128 ∧ τ.1 489 i = nI (W i)
def tpW (wt : Nat) (W : Nat → Nat) : Int32 := if wt = 0 then -1 else nI (W (wt - 1))
theorem SKs.top {wt : Nat} {W : Nat → Nat} (h : SKs τ wt W) : p_X9_top τ ∧ f_X9_top τ = tpW wt W := by
  have hw := h.2.1
  unfold p_X9_top f_X9_top tpW
  rw [h.1]
  by_cases c : wt = 0
  · subst c
    exact ⟨fun y => absurd rfl y, by rw [if_pos rfl]; exact if_pos rfl⟩
  · have c' : ¬ nI wt = 0 := nI_ne0 (by omega) (by omega)
    rw [if_neg c, if_neg c', nI_s1 (by omega), nI_clamp (by omega), (h.2.2 (wt - 1) (by omega)).2]
    exact ⟨fun _ => vp_in_nI (by omega) (by decide), rfl⟩
theorem SKs.eq {wt : Nat} {W : Nat → Nat} (h : SKs τ wt W) (h1 : τ1.1 468 37 = τ.1 468 37) (h2 : ∀ i, i < wt → τ1.1 489 i = τ.1 489 i) : SKs τ1 wt W := ⟨h1.trans h.1, h.2.1, fun i hi => ⟨(h.2.2 i hi).1, (h2 i hi).trans (h.2.2 i hi).2⟩⟩
theorem tp_eq {wt c : Nat} {W : Nat → Nat} (hW : ∀ i, i < wt → W i < 128) (hc : c < 128) : (tpW wt W = nI c ↔ 1 ≤ wt ∧ W (wt - 1) = c) := by
  unfold tpW
  by_cases k : wt = 0
  · rw [if_pos k]
    constructor
    · intro y
      exact absurd (show nI c < 0 by rw [← y]; decide) (nI_pos (by omega))
    · intro y
      omega
  · rw [if_neg k]
    have := hW (wt - 1) (by omega)
    constructor
    · intro y
      exact ⟨by omega, (nI_eq (by omega) (by omega)).mp y⟩
    · intro y
      rw [y.2]
/-- push -/
theorem rf_push {wt o : Nat} {W : Nat → Nat} {x y : Int32} (h : SKs τ wt W) (hw : wt < 100) (ho : o < 128) : p_X9_push (nI o) x y τ ∧ s_X9_push (nI o) x y τ = zuI (zuI (zuI (zuI τ 489 wt (nI o)) 490 wt x) 491 wt y) 468 37 (nI (wt + 1)) ∧ SKs (s_X9_push (nI o) x y τ) (wt + 1) (fun i => if i = wt then o else W i) := by
  have cw : (nI wt).toNatClampNeg = wt := nI_clamp (by omega)
  have pv : vp_in (nI wt) 200 := vp_in_nI (by omega) (by decide)
  have e1 : u_X9_push_1 (nI o) x y τ = zuI τ 489 wt (nI o) := by
    unfold u_X9_push_1
    rw [h.1, cw]
  have e2 : u_X9_push_2 (nI o) x y τ = zuI (zuI τ 489 wt (nI o)) 490 wt x := by
    unfold u_X9_push_2
    rw [e1, gI_n (by omega), h.1, cw]
  have e3 : u_X9_push_3 (nI o) x y τ = zuI (zuI (zuI τ 489 wt (nI o)) 490 wt x) 491 wt y := by
    unfold u_X9_push_3
    rw [e2, gI_n (by omega), gI_n (by omega), h.1, cw]
  have e4 : s_X9_push (nI o) x y τ = zuI (zuI (zuI (zuI τ 489 wt (nI o)) 490 wt x) 491 wt y) 468 37 (nI (wt + 1)) := by
    unfold s_X9_push u_X9_push_4
    rw [e3, gI_n (by omega), gI_n (by omega), gI_n (by omega), h.1, nI_1]
  refine ⟨⟨by rw [h.1]; exact pv, ?_, ?_⟩, e4, ?_⟩
  · rw [e1, gI_n (by omega), h.1]; exact pv
  · rw [e2, gI_n (by omega), gI_n (by omega), h.1]; exact pv
  · rw [e4]
    refine ⟨gI_h rfl rfl, by omega, fun i hi => ?_⟩
    show (if i = wt then o else W i) < 128 ∧ _ = nI (if i = wt then o else W i)
    by_cases e : i = wt
    · rw [if_pos e, e]
      exact ⟨ho, by rw [gI_n (by omega), gI_n (by omega), gI_n (by omega), gI_h rfl rfl]⟩
    · rw [if_neg e]
      refine ⟨(h.2.2 i (by omega)).1, ?_⟩
      rw [gI_n (by omega), gI_n (by omega), gI_n (by omega), gI_n (by omega)]
      exact (h.2.2 i (by omega)).2
/-- the top of what waits is laid -/
theorem rf_layTop {wt L : Nat} {W : Nat → Nat} (h : SKs τ (wt + 1) W) (hM : MKc τ b K L) (hb : b < 2) (hL : L < 400) (hx : W wt = K.1 L) (hy : K.2.1 L = 0) : p_X9_layTop (nI b) τ ∧ SKs (s_X9_layTop (nI b) τ) wt W ∧ MKc (s_X9_layTop (nI b) τ) b K (L + 1) ∧ rfr (fun Q j => sLa b Q j ∨ (Q = 468 ∧ j = 37)) τ (s_X9_layTop (nI b) τ) := by
  have hw := h.2.1
  have e1 : u_X9_layTop_1 (nI b) τ = zuI τ 468 37 (nI wt) := by
    unfold u_X9_layTop_1
    rw [h.1, nI_s1 (by omega)]
    rfl
  have e2 : (zuI τ 468 37 (nI wt)).1 489 ((zuI τ 468 37 (nI wt)).1 468 37).toNatClampNeg = nI (K.1 L) := by
    rw [gI_h rfl rfl, nI_clamp (by omega), gI_n (by omega), (h.2.2 wt (by omega)).2, hx]
  have hM1 : MKc (zuI τ 468 37 (nI wt)) b K L := hM.eq (fun Q j y => gI_n (by omega))
  obtain ⟨l1, l2, l3⟩ := rf_lay (x := nI (K.1 L)) (y := 0) hM1 hb hL rfl hy.symm
  have es : s_X9_layTop (nI b) τ = s_X9_lay (nI b) (nI (K.1 L)) 0 (zuI τ 468 37 (nI wt)) := by
    unfold s_X9_layTop u_X9_layTop_2
    rw [e1, e2]
  rw [es]
  refine ⟨⟨?_, ?_⟩, ⟨?_, by omega, fun i hi => ⟨(h.2.2 i (by omega)).1, ?_⟩⟩, l2, ⟨l3.1, fun Q j y => ?_⟩⟩
  · rw [e1, gI_h rfl rfl]; exact vp_in_nI (by omega) (by decide)
  · rw [e1, e2]; exact l1
  · rw [l3.2 _ _ (fun y => by unfold sLa at y; omega), gI_h rfl rfl]
  · rw [l3.2 _ _ (fun y => by unfold sLa at y; omega), gI_n (by omega)]; exact (h.2.2 i (by omega)).2
  · rw [l3.2 _ _ (fun z => y (Or.inl z)), gI_n (fun z => y (Or.inr z))]
/-- all minuses at the top are laid -/
theorem rf_minus (hb : b < 2) {wt : Nat} {W : Nat → Nat} (h0 : wt = 0 ∨ ¬ W (wt - 1) = 7) : ∀ (m d L : Nat) (τ : zS), SKs τ (wt + m) W → (∀ i, wt ≤ i → i < wt + m → W i = 7) → MKc τ b K L → L + m ≤ 400 → (∀ i, L ≤ i → i < L + m → K.1 i = 7 ∧ K.2.1 i = 0) → τ.1 468 38 = nI (d + m) → ∀ z, m < z → q_X9_closeMinus N z (nI b) τ ∧ SKs (l_X9_closeMinus N z (nI b) τ) wt W ∧ MKc (l_X9_closeMinus N z (nI b) τ) b K (L + m) ∧ (l_X9_closeMinus N z (nI b) τ).1 468 38 = nI d ∧ rfr (fun Q j => sLa b Q j ∨ (Q = 468 ∧ (j = 37 ∨ j = 38))) τ (l_X9_closeMinus N z (nI b) τ) := by
  intro m
  induction m with
  | zero =>
    intro d L τ hS hW hM hL hK hd z hz
    obtain ⟨z, rfl⟩ : ∃ q, z = q + 1 := ⟨z - 1, by omega⟩
    obtain ⟨t1, t2⟩ := hS.top
    have t3 : ¬ f_X9_top τ = 7 := by
      rw [t2]
      intro y
      have h7 : 1 ≤ wt ∧ W (wt - 1) = 7 := (tp_eq (c := 7) (fun i hi => (hS.2.2 i hi).1) (by decide)).mp y
      rcases h0 with h0 | h0
      · omega
      · exact h0 h7.2
    rw [q_X9_closeMinus, l_X9_closeMinus, if_neg t3]
    exact ⟨⟨t1, fun y => absurd y t3⟩, hS, hM, hd, rfr.rf⟩
  | succ m ih =>
    intro d L τ hS hW hM hL hK hd z hz
    obtain ⟨z, rfl⟩ : ∃ q, z = q + 1 := ⟨z - 1, by omega⟩
    have hw := hS.2.1
    obtain ⟨t1, t2⟩ := hS.top
    have t3 : f_X9_top τ = 7 := by
      rw [t2]
      exact (tp_eq (c := 7) (fun i hi => (hS.2.2 i hi).1) (by decide)).mpr ⟨by omega, hW _ (by omega) (by omega)⟩
    obtain ⟨k1, k2⟩ := hK L (by omega) (by omega)
    obtain ⟨l1, l2, l3⟩ := rf_lay (x := 7) (y := 0) hM hb (by omega) (by rw [k1]; rfl) k2.symm
    have e37 : (s_X9_lay (nI b) 7 0 τ).1 468 37 = nI (wt + (m + 1)) := (l3.2 _ _ (fun y => by unfold sLa at y; omega)).trans hS.1
    have e38 : (s_X9_lay (nI b) 7 0 τ).1 468 38 = nI (d + (m + 1)) := (l3.2 _ _ (fun y => by unfold sLa at y; omega)).trans hd
    have eu : u_X9_closeMinus_h0_3 N (nI b) τ = zuI (zuI (s_X9_lay (nI b) 7 0 τ) 468 37 (nI (wt + m))) 468 38 (nI (d + m)) := by
      unfold u_X9_closeMinus_h0_3 u_X9_closeMinus_h0_2 u_X9_closeMinus_h0_1
      rw [e37, gI_n (by omega), e38, nI_s1 (by omega), nI_s1 (by omega)]
      rfl
    generalize hτ : zuI (zuI (s_X9_lay (nI b) 7 0 τ) 468 37 (nI (wt + m))) 468 38 (nI (d + m)) = τ3 at eu
    have o3 : ∀ Q j, ¬ (sLa b Q j ∨ (Q = 468 ∧ (j = 37 ∨ j = 38))) → τ3.1 Q j = τ.1 Q j := fun Q j y => by
      rw [← hτ, gI_n (fun z => y (Or.inr ⟨z.1, Or.inr z.2⟩)), gI_n (fun z => y (Or.inr ⟨z.1, Or.inl z.2⟩)), l3.2 _ _ (fun z => y (Or.inl z))]
    have f3 : rfr (fun Q j => sLa b Q j ∨ (Q = 468 ∧ (j = 37 ∨ j = 38))) τ τ3 := ⟨by rw [← hτ]; exact l3.1, o3⟩
    have s3 : SKs τ3 (wt + m) W := ⟨by rw [← hτ, gI_n (by omega), gI_h rfl rfl], by omega, fun i hi => ⟨(hS.2.2 i (by omega)).1, (o3 _ _ (fun y => by unfold sLa at y; omega)).trans (hS.2.2 i (by omega)).2⟩⟩
    have m3 : MKc τ3 b K (L + 1) := l2.eq (fun Q j y => by rw [← hτ, gI_n (by omega), gI_n (by omega)])
    obtain ⟨i1, i2, i3, i4, i5⟩ := ih d (L + 1) τ3 s3 (fun i j1 j2 => hW i j1 (by omega)) m3 (by omega) (fun i j1 j2 => hK i (by omega) (by omega)) (by rw [← hτ]; exact gI_h rfl rfl) z (by omega)
    rw [q_X9_closeMinus, l_X9_closeMinus, if_pos t3, eu]
    exact ⟨⟨t1, fun _ => ⟨l1, i1⟩⟩, i2, by rw [show L + (m + 1) = L + 1 + m by omega]; exact i3, i4, f3.tr i5⟩
end IS
