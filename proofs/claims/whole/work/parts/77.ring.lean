/-! a ring of the class at r beside the reference's row: what lies where (A: the row as both tell it) -/
def Lk (sl al r a k i : Nat) : Prop := (a = r ∧ ((k = 2 ∧ i = 6) ∨ (k = 3 ∧ i = 7) ∨ (k = 7 ∧ i = 3) ∨ (sl = 1 ∧ k = 6 ∧ i = 5) ∨ (sl = 1 ∧ k = 8 ∧ i = 4) ∨ (al = 0 ∧ k = 4 ∧ i = 8) ∨ (al = 0 ∧ k = 5 ∧ i = 9) ∨ (al = 0 ∧ k = 9 ∧ i = 0))) ∨ (a = r + 1 ∧ k < 12 ∧ i = 12 + k) ∨ (a = r + 2 ∧ k < 12 ∧ i = 24 + k) ∨ (∃ t, t < 4 ∧ a = r + 5 + 5 * t ∧ ((k = 2 ∧ i = 138 + 20 * t) ∨ (4 ≤ k ∧ k ≤ 11 ∧ i = 135 + 20 * t + k))) ∨ (∃ t, t < 4 ∧ a = r + 6 + 5 * t ∧ k = 0 ∧ i = 137 + 20 * t)
theorem Lk.inj {sl al r a k i b j m : Nat} (h : Lk sl al r a k i) (h1 : Lk sl al r b j m) : (a = b ∧ k = j) ↔ i = m := by
  unfold Lk at h h1
  rcases h with h | h | h | ⟨t, h⟩ | ⟨t, h⟩ <;> rcases h1 with h1 | h1 | h1 | ⟨u, h1⟩ | ⟨u, h1⟩ <;> omega
theorem lk_g {sl al r k i : Nat} (h : (k = 2 ∧ i = 6) ∨ (k = 3 ∧ i = 7) ∨ (k = 7 ∧ i = 3) ∨ (sl = 1 ∧ k = 6 ∧ i = 5) ∨ (sl = 1 ∧ k = 8 ∧ i = 4) ∨ (al = 0 ∧ k = 4 ∧ i = 8) ∨ (al = 0 ∧ k = 5 ∧ i = 9) ∨ (al = 0 ∧ k = 9 ∧ i = 0)) : Lk sl al r r k i := Or.inl ⟨rfl, h⟩
theorem lk_o {sl al r w : Nat} (h : w < 12) : Lk sl al r (r + 1) w (12 + w) := Or.inr (Or.inl ⟨rfl, h, rfl⟩)
theorem lk_f {sl al r w : Nat} (h : w < 12) : Lk sl al r (r + 2) w (24 + w) := Or.inr (Or.inr (Or.inl ⟨rfl, h, rfl⟩))
theorem lk_r {sl al r t : Nat} (h : t < 4) : Lk sl al r (r + 5 + 5 * t) 2 (138 + 20 * t) := Or.inr (Or.inr (Or.inr (Or.inl ⟨t, h, rfl, Or.inl ⟨rfl, rfl⟩⟩)))
theorem lk_t {sl al r t k : Nat} (h : t < 4) (h1 : 4 ≤ k) (h2 : k ≤ 11) : Lk sl al r (r + 5 + 5 * t) k (135 + 20 * t + k) := Or.inr (Or.inr (Or.inr (Or.inl ⟨t, h, rfl, Or.inr ⟨h1, h2, rfl⟩⟩)))
theorem lk_d {sl al r t : Nat} (h : t < 4) : Lk sl al r (r + 6 + 5 * t) 0 (137 + 20 * t) := Or.inr (Or.inr (Or.inr (Or.inr ⟨t, h, rfl, rfl, rfl⟩)))
def CRel (sl al : Nat) (σ : zS) (r : Nat) (A : Nat → Int32) : Prop := ∀ a k i, Lk sl al r a k i → σ.1 a k = A i
def MRel (τ : zS) (A : Nat → Int32) : Prop := ∀ i, i < 236 → τ.1 469 i = A i
theorem CRel.up {sl al r a k i : Nat} {x : Int32} {σ : zS} {A : Nat → Int32} (h : CRel sl al σ r A) (hk : Lk sl al r a k i) : CRel sl al (zuI σ a k x) r (upd A i x) := by
  intro b j m hm
  have hi := hk.inj hm
  by_cases c : i = m
  · rw [gI_h (hi.mpr c).1.symm (hi.mpr c).2.symm, ← c, pk_us]
  · rw [gI_n (fun z => c (hi.mp ⟨z.1.symm, z.2.symm⟩)), pk_un (fun z => c z.symm)]
    exact h b j m hm
theorem CRel.sk {sl al r a k : Nat} {x : Int32} {σ : zS} {A : Nat → Int32} (h : CRel sl al σ r A) (hk : ∀ i, ¬ Lk sl al r a k i) : CRel sl al (zuI σ a k x) r A := by
  intro b j m hm
  rw [gI_n (fun z => hk m (by rw [← z.1, ← z.2]; exact hm))]
  exact h b j m hm
theorem CRel.fr {sl al r : Nat} {S : Nat → Nat → Prop} {σ σ1 : zS} {A : Nat → Int32} (h : CRel sl al σ r A) (hf : rfr S σ σ1) (hS : ∀ q j, S q j → ∀ i, ¬ Lk sl al r q j i) : CRel sl al σ1 r A := fun b j m hm => (hf.2 b j (fun z => hS b j z m hm)).trans (h b j m hm)
theorem MRel.up {i : Nat} {x : Int32} {τ : zS} {A : Nat → Int32} (h : MRel τ A) : MRel (zuI τ 469 i x) (upd A i x) := by
  intro j hj
  by_cases c : j = i
  · rw [gI_h rfl c, c, pk_us]
  · rw [gI_n (by omega), pk_un c]
    exact h j hj
theorem MRel.sk {a i : Nat} {x : Int32} {τ : zS} {A : Nat → Int32} (h : MRel τ A) (hi : ¬ a = 469 ∨ 236 ≤ i) : MRel (zuI τ a i x) A := by
  intro j hj
  rw [gI_n (by omega)]
  exact h j hj
theorem MRel.fr {S : Nat → Nat → Prop} {τ τ1 : zS} {A : Nat → Int32} (h : MRel τ A) (hf : rfr S τ τ1) (hS : ∀ q j, S q j → ¬ q = 469 ∨ 236 ≤ j) : MRel τ1 A := fun j hj => (hf.2 469 j (fun z => by have := hS _ _ z; omega)).trans (h j hj)
theorem upd_c {A : Nat → Int32} {i j : Nat} {x y : Int32} (h : ¬ i = j) : upd (upd A i x) j y = upd (upd A j y) i x := by
  funext m
  unfold upd
  by_cases c : m = j
  · rw [if_pos c, if_neg (by omega), if_pos c]
  · rw [if_neg c, if_neg c]
theorem upd_two {A : Nat → Int32} {i : Nat} {x y : Int32} : upd (upd A i x) i y = upd A i y := by
  funext m
  unfold upd
  by_cases c : m = i
  · rw [if_pos c, if_pos c]
  · rw [if_neg c, if_neg c, if_neg c]
theorem upd_same {A : Nat → Int32} {i : Nat} {x : Int32} (h : A i = x) : upd A i x = A := by
  funext m
  unfold upd
  by_cases c : m = i
  · rw [if_pos c, c, h]
  · rw [if_neg c]
/-! the class's ring: what does not change -/
def CSt (σ : zS) (r W n : Nat) : Prop := σ.1 r 0 = nI W ∧ σ.1 r 1 = nI n ∧ ∀ t, t < 4 → σ.2 (r + 4) t = r + 5 + 5 * t + 1
def Rly (r : Nat) : Prop := r + 25 ≤ 468 ∧ ∀ d, d < 25 → zlay (r + d) = ly_4 d
theorem Rly.task {r t : Nat} (h : Rly r) (ht : t < 4) : zlay (r + 5 + 5 * t) = (5, 12) := by
  rw [show r + 5 + 5 * t = r + (5 + 5 * t) by omega, h.2 _ (by omega)]
  rcases (show t = 0 ∨ t = 1 ∨ t = 2 ∨ t = 3 by omega) with rfl | rfl | rfl | rfl <;> rfl
theorem tk_eq {σ : zS} {r t : Nat} (h : ∀ t, t < 4 → σ.2 (r + 4) t = r + 5 + 5 * t + 1) (ht : t < 4) : f_X4_taskAt r (nI t) σ = r + 5 + 5 * t := by
  unfold f_X4_taskAt
  rw [if_neg (nI_pos (by omega)), if_neg (show ¬ (4 : Int32) ≤ nI t from nI_ge (b := 4) ht (by decide)), nI_clamp (by omega), h t ht]
  rfl
theorem tk_p {σ : zS} {r t : Nat} (hl : Rly r) (h : ∀ t, t < 4 → σ.2 (r + 4) t = r + 5 + 5 * t + 1) (ht : t < 4) : p_X4_taskAt r (nI t) σ := by
  refine ⟨fun z => absurd z (nI_pos (by omega)), fun _ => ⟨fun z => absurd z (nI_ge (b := 4) ht (by decide)), fun _ => ⟨vp_in_nI ht (by decide), ?_⟩⟩⟩
  rw [nI_clamp (by omega), h t ht]
  exact ⟨by omega, hl.task ht⟩
theorem CSt.uI {σ : zS} {r W n a k : Nat} {x : Int32} (h : CSt σ r W n) (hk : ¬ (a = r ∧ k ≤ 1)) : CSt (zuI σ a k x) r W n := ⟨(gI_n (by omega)).trans h.1, (gI_n (by omega)).trans h.2.1, h.2.2⟩
theorem CSt.fr {σ σ1 : zS} {r W n : Nat} {S : Nat → Nat → Prop} (h : CSt σ r W n) (hf : rfr S σ σ1) (hS : ∀ q j, S q j → ¬ (q = r ∧ j ≤ 1)) : CSt σ1 r W n := ⟨(hf.2 _ _ (fun z => hS _ _ z (by omega))).trans h.1, (hf.2 _ _ (fun z => hS _ _ z (by omega))).trans h.2.1, by rw [hf.1]; exact h.2.2⟩
/-- a ring's own cells (courses' inner rows apart) -/
def sR (r : Nat) (q j : Nat) : Prop := r ≤ q ∧ q < r + 25
/-! moving out and in -/
def aOut (A : Nat → Int32) (t w : Nat) : Nat → Int32 := upd (upd (upd A (12 + w) (-1)) (24 + w) (-1)) (138 + 20 * t) (A (138 + 20 * t) - 1)
def aIn (A : Nat → Int32) (t : Nat) (f : Int32) (w : Nat) : Nat → Int32 := upd (upd (upd A (12 + w) (nI t)) (24 + w) f) (138 + 20 * t) (A (138 + 20 * t) + 1)
def sW (r t : Nat) (q j : Nat) : Prop := ((q = r + 1 ∨ q = r + 2) ∧ j < 12) ∨ (q = r + 5 + 5 * t ∧ j = 2)
theorem cl_out {sl al r t w W n : Nat} {σ : zS} {A : Nat → Int32} (hl : Rly r) (hs : CSt σ r W n) (h : CRel sl al σ r A) (ht : t < 4) (hw : w < 12) : p_X4_moveOut r (nI t) (nI w) σ ∧ CRel sl al (s_X4_moveOut r (nI t) (nI w) σ) r (aOut A t w) ∧ CSt (s_X4_moveOut r (nI t) (nI w) σ) r W n ∧ rfr (sW r t) σ (s_X4_moveOut r (nI t) (nI w) σ) := by
  have e2 : u_X4_moveOut_2 r (nI t) (nI w) σ = zuI (zuI σ (r + 1) w (-1)) (r + 2) w (-1) := by
    unfold u_X4_moveOut_2 u_X4_moveOut_1
    rw [put_i hw (by decide), put_i hw (by decide)]
  have ht2 : ∀ u, u < 4 → (zuI (zuI σ (r + 1) w (-1)) (r + 2) w (-1)).2 (r + 4) u = r + 5 + 5 * u + 1 := hs.2.2
  have e : s_X4_moveOut r (nI t) (nI w) σ = zuI (zuI (zuI σ (r + 1) w (-1)) (r + 2) w (-1)) (r + 5 + 5 * t) 2 (A (138 + 20 * t) - 1) := by
    unfold s_X4_moveOut u_X4_moveOut_3
    rw [e2, tk_eq ht2 ht, gI_n (by omega), gI_n (by omega), h _ _ _ (lk_r ht)]
  refine ⟨⟨put_p (by decide), put_p (by decide), by rw [e2]; exact tk_p hl ht2 ht⟩, ?_, ?_, ?_⟩
  · rw [e]
    exact ((h.up (lk_o hw)).up (lk_f hw)).up (lk_r ht)
  · rw [e]
    exact ((hs.uI (by omega)).uI (by omega)).uI (by omega)
  · rw [e]
    exact ((rfr.rf.uI (Or.inl ⟨Or.inl rfl, hw⟩)).uI (Or.inl ⟨Or.inr rfl, hw⟩)).uI (Or.inr ⟨rfl, rfl⟩)
theorem cl_in {sl al r t w W n : Nat} {f : Int32} {σ : zS} {A : Nat → Int32} (hl : Rly r) (hs : CSt σ r W n) (h : CRel sl al σ r A) (ht : t < 4) (hw : w < 12) : p_X4_moveIn r (nI t) f (nI w) σ ∧ CRel sl al (s_X4_moveIn r (nI t) f (nI w) σ) r (aIn A t f w) ∧ CSt (s_X4_moveIn r (nI t) f (nI w) σ) r W n ∧ rfr (sW r t) σ (s_X4_moveIn r (nI t) f (nI w) σ) := by
  have e2 : u_X4_moveIn_2 r (nI t) f (nI w) σ = zuI (zuI σ (r + 1) w (nI t)) (r + 2) w f := by
    unfold u_X4_moveIn_2 u_X4_moveIn_1
    rw [put_i hw (by decide), put_i hw (by decide)]
  have ht2 : ∀ u, u < 4 → (zuI (zuI σ (r + 1) w (nI t)) (r + 2) w f).2 (r + 4) u = r + 5 + 5 * u + 1 := hs.2.2
  have e : s_X4_moveIn r (nI t) f (nI w) σ = zuI (zuI (zuI σ (r + 1) w (nI t)) (r + 2) w f) (r + 5 + 5 * t) 2 (A (138 + 20 * t) + 1) := by
    unfold s_X4_moveIn u_X4_moveIn_3
    rw [e2, tk_eq ht2 ht, gI_n (by omega), gI_n (by omega), h _ _ _ (lk_r ht)]
  refine ⟨⟨put_p (by decide), put_p (by decide), by rw [e2]; exact tk_p hl ht2 ht⟩, ?_, ?_, ?_⟩
  · rw [e]
    exact ((h.up (lk_o hw)).up (lk_f hw)).up (lk_r ht)
  · rw [e]
    exact ((hs.uI (by omega)).uI (by omega)).uI (by omega)
  · rw [e]
    exact ((rfr.rf.uI (Or.inl ⟨Or.inl rfl, hw⟩)).uI (Or.inl ⟨Or.inr rfl, hw⟩)).uI (Or.inr ⟨rfl, rfl⟩)
/-! the reference: a window taken or freed -/
def sN (q j : Nat) : Prop := q = 469 ∧ j < 236
theorem rf_place {w : Nat} {x y : Int32} {τ : zS} {A : Nat → Int32} (h : MRel τ A) (hw : w < 12) : p_X9_place (nI w) x y τ ∧ MRel (s_X9_place (nI w) x y τ) (upd (upd A (12 + w) x) (24 + w) y) ∧ rfr sN τ (s_X9_place (nI w) x y τ) := by
  have e12 : (12 : Int32) + nI w = nI (12 + w) := by rw [(show (12 : Int32) = nI 12 from rfl), nI_add]
  have e24 : (24 : Int32) + nI w = nI (24 + w) := by rw [(show (24 : Int32) = nI 24 from rfl), nI_add]
  have e : s_X9_place (nI w) x y τ = zuI (zuI τ 469 (12 + w) x) 469 (24 + w) y := by
    unfold s_X9_place u_X9_place_2 u_X9_place_1
    rw [e12, e24, nI_clamp (by omega), nI_clamp (by omega)]
  refine ⟨?_, ?_, ?_⟩
  · unfold p_X9_place
    rw [e12, e24]
    exact ⟨vp_in_nI (by omega) (by decide), vp_in_nI (by omega) (by decide)⟩
  · rw [e]
    exact h.up.up
  · rw [e]
    exact (rfr.rf.uI (show sN _ _ from ⟨rfl, by omega⟩)).uI (show sN _ _ from ⟨rfl, by omega⟩)
theorem rf_free {w : Nat} {τ : zS} (hw : w < 12) : f_X9_isFree (nI w) τ = (if τ.1 469 (12 + w) = -1 then 1 else 0) ∧ p_X9_isFree (nI w) τ := by
  have e12 : (12 : Int32) + nI w = nI (12 + w) := by rw [(show (12 : Int32) = nI 12 from rfl), nI_add]
  unfold f_X9_isFree p_X9_isFree
  rw [e12, nI_clamp (by omega)]
  exact ⟨rfl, vp_in_nI (by omega) (by decide)⟩
theorem rf_own {w : Nat} : ((12 : Int32) + nI w) = nI (12 + w) := by rw [(show (12 : Int32) = nI 12 from rfl), nI_add]
/-! traps noted -/
def aTrap (A : Nat → Int32) (kd t m o : Int32) : Nat → Int32 := fun i => if i = 1 then A 1 + 1 else if i = 2 then A 2 + m else if i = 11 then f_X9_less 20 (A 11 + 1) else if 41 ≤ i ∧ i < 136 then A (i - 5) else if i = 36 then kd else if i = 37 then t else if i = 38 then m else if i = 39 then o else if i = 40 then A 0 else A i
def COf (al : Nat) (σ : zS) (r : Nat) (A : Nat → Int32) (dT dM : Int32) (T M : Nat) : Prop := σ.1 r 10 = nI T ∧ σ.1 r 11 = nI M ∧ A 1 = nI T + dT ∧ A 2 = nI M + dM ∧ (al = 0 → A 11 = nI (if T < 20 then T else 20) ∧ ∀ i k, i < 20 → i < T → k < 5 → σ.1 (r + 3) ((T - 1 - i) % 20 * 5 + k) = A (36 + 5 * i + k))
theorem COf.eq {al r T M : Nat} {σ σ1 : zS} {A A1 : Nat → Int32} {dT dM : Int32} (h : COf al σ r A dT dM T M) (h0 : σ1.1 r 10 = σ.1 r 10) (h1 : σ1.1 r 11 = σ.1 r 11) (h3 : ∀ j, σ1.1 (r + 3) j = σ.1 (r + 3) j) (hA : ∀ i, (i = 1 ∨ i = 2 ∨ i = 11 ∨ (36 ≤ i ∧ i < 136)) → A1 i = A i) : COf al σ1 r A1 dT dM T M := by
  obtain ⟨a, b, c, d, e⟩ := h
  refine ⟨h0.trans a, h1.trans b, (hA 1 (by omega)).trans c, (hA 2 (by omega)).trans d, fun z => ⟨(hA 11 (by omega)).trans (e z).1, fun i k i1 i2 hk => ?_⟩⟩
  rw [h3, (e z).2 i k i1 i2 hk, hA _ (by omega)]
def sT (r : Nat) (q j : Nat) : Prop := (q = r ∧ (j = 10 ∨ j = 11)) ∨ (q = r + 3 ∧ j < 100)
theorem cl_trap {sl al r W n T M m : Nat} {kd t o dT dM : Int32} {σ : zS} {A : Nat → Int32} (hs : CSt σ r W n) (h : CRel sl al σ r A) (ho : COf al σ r A dT dM T M) (hT : T < 2 ^ 30) : p_X4_noteTrap r kd t (nI m) o σ ∧ CRel sl al (s_X4_noteTrap r kd t (nI m) o σ) r (aTrap A kd t (nI m) o) ∧ COf al (s_X4_noteTrap r kd t (nI m) o σ) r (aTrap A kd t (nI m) o) dT dM (T + 1) (M + m) ∧ CSt (s_X4_noteTrap r kd t (nI m) o σ) r W n ∧ rfr (sT r) σ (s_X4_noteTrap r kd t (nI m) o σ) := by
  obtain ⟨o1, o2, o3, o4, o5⟩ := ho
  have hm : T % 20 < 20 := Nat.mod_lt _ (by decide)
  have eP : ((σ.1 r 10) - (σ.1 r 10) / 20 * 20) * 5 = nI (T % 20 * 5) := by
    rw [o1, (show (20 : Int32) = nI 20 from rfl), pk_rem (by omega) (by decide) (by decide), (show (5 : Int32) = nI 5 from rfl), pk_mul]
  have e5 : u_X4_noteTrap_4 r kd t (nI m) o σ = zuI (zuI (zuI (zuI σ (r + 3) (T % 20 * 5) kd) (r + 3) (T % 20 * 5 + 1) t) (r + 3) (T % 20 * 5 + 2) (nI m)) (r + 3) (T % 20 * 5 + 3) o := by
    unfold u_X4_noteTrap_4 u_X4_noteTrap_3 u_X4_noteTrap_2 u_X4_noteTrap_1
    rw [eP, (show (1 : Int32) = nI 1 from rfl), (show (2 : Int32) = nI 2 from rfl), (show (3 : Int32) = nI 3 from rfl), nI_add, nI_add, nI_add, put_i (by omega) (by decide), put_i (by omega) (by decide), put_i (by omega) (by decide), put_i (by omega) (by decide)]
  have e : s_X4_noteTrap r kd t (nI m) o σ = zuI (zuI (zuI (zuI (zuI (zuI (zuI σ (r + 3) (T % 20 * 5) kd) (r + 3) (T % 20 * 5 + 1) t) (r + 3) (T % 20 * 5 + 2) (nI m)) (r + 3) (T % 20 * 5 + 3) o) (r + 3) (T % 20 * 5 + 4) (σ.1 r 9)) r 10 (nI (T + 1))) r 11 (nI (M + m)) := by
    unfold s_X4_noteTrap u_X4_noteTrap_7 u_X4_noteTrap_6 u_X4_noteTrap_5
    rw [e5, eP, (show (4 : Int32) = nI 4 from rfl), nI_add, put_i (by omega) (by decide)]
    simp (disch := omega) only [gI_n, gI_h]
    rw [o1, o2, nI_1, nI_add]
  refine ⟨⟨put_p (by decide), put_p (by decide), put_p (by decide), put_p (by decide), put_p (by decide)⟩, ?_, ?_, ?_, ?_⟩
  · rw [e]
    intro b j i hk
    have hb : ¬ (b = r + 3) ∧ ¬ (b = r ∧ (j = 10 ∨ j = 11)) ∧ aTrap A kd t (nI m) o i = A i := by
      unfold Lk at hk
      unfold aTrap
      rcases hk with hk | hk | hk | ⟨u, hk⟩ | ⟨u, hk⟩ <;> refine ⟨by omega, by omega, ?_⟩ <;> rw [if_neg (by omega), if_neg (by omega), if_neg (by omega), if_neg (by omega), if_neg (by omega), if_neg (by omega), if_neg (by omega), if_neg (by omega), if_neg (by omega)]
    rw [gI_n (by omega), gI_n (by omega), gI_n (by omega), gI_n (by omega), gI_n (by omega), gI_n (by omega), gI_n (by omega), hb.2.2]
    exact h b j i hk
  · rw [e]
    refine ⟨?_, gI_h rfl rfl, ?_, ?_, fun z => ⟨?_, fun i k i1 i2 hk => ?_⟩⟩
    · rw [gI_n (by omega), gI_h rfl rfl]
    · show A 1 + 1 = _
      rw [o3, ← nI_1, Int32.add_assoc, Int32.add_assoc, Int32.add_comm dT 1]
    · show A 2 + nI m = _
      rw [o4, ← nI_add, Int32.add_assoc, Int32.add_assoc, Int32.add_comm dM (nI m)]
    · show f_X9_less 20 (A 11 + 1) = _
      rw [(o5 z).1, nI_1]
      unfold f_X9_less
      by_cases c : T < 20
      · rw [if_pos c]
        by_cases c1 : T + 1 < 20
        · rw [if_pos c1, if_pos (show nI (T + 1) ≤ (20 : Int32) from nI_le (b := 20) (by omega) (by decide))]
        · have : T + 1 = 20 := by omega
          rw [this]
          rfl
      · rw [if_neg c, if_neg (show ¬ T + 1 < 20 by omega)]
        rfl
    · rw [gI_n (by omega), gI_n (by omega)]
      have oz := (o5 z).2
      rw [h r 9 0 (lk_g (by omega))]
      by_cases c : i = 0
      · subst c
        rw [show (T + 1 - 1 - 0) % 20 = T % 20 by rw [Nat.add_sub_cancel, Nat.sub_zero], show 36 + 5 * 0 + k = 36 + k by omega]
        rcases (show k = 0 ∨ k = 1 ∨ k = 2 ∨ k = 3 ∨ k = 4 by omega) with rfl | rfl | rfl | rfl | rfl
        · rw [gI_n (by omega), gI_n (by omega), gI_n (by omega), gI_n (by omega), gI_h rfl (by omega)]
          rfl
        · rw [gI_n (by omega), gI_n (by omega), gI_n (by omega), gI_h rfl rfl]
          rfl
        · rw [gI_n (by omega), gI_n (by omega), gI_h rfl rfl]
          rfl
        · rw [gI_n (by omega), gI_h rfl rfl]
          rfl
        · rw [gI_h rfl rfl]
          rfl
      · have hne : ¬ (T + 1 - 1 - i) % 20 = T % 20 := by omega
        have hlt : (T + 1 - 1 - i) % 20 < 20 := Nat.mod_lt _ (by decide)
        rw [gI_n (by omega), gI_n (by omega), gI_n (by omega), gI_n (by omega), gI_n (by omega)]
        have q := oz (i - 1) k (by omega) (by omega) hk
        rw [show T - 1 - (i - 1) = T + 1 - 1 - i by omega] at q
        rw [q]
        show _ = aTrap A kd t (nI m) o (36 + 5 * i + k)
        unfold aTrap
        rw [if_neg (by omega), if_neg (by omega), if_neg (by omega), if_pos (by omega)]
        congr 1
        omega
  · rw [e]
    exact ((((((hs.uI (by omega)).uI (by omega)).uI (by omega)).uI (by omega)).uI (by omega)).uI (by omega)).uI (by omega)
  · rw [e]
    exact ((((((rfr.rf.uI (Or.inr ⟨rfl, by omega⟩)).uI (Or.inr ⟨rfl, by omega⟩)).uI (Or.inr ⟨rfl, by omega⟩)).uI (Or.inr ⟨rfl, by omega⟩)).uI (Or.inr ⟨rfl, by omega⟩)).uI (Or.inl ⟨rfl, Or.inl rfl⟩)).uI (Or.inl ⟨rfl, Or.inr rfl⟩)
theorem rf_shift {N : Nat} {v1 v2 v3 v4 : Int32} : ∀ (m : Nat) (τ : zS), m ≤ 95 → ∀ z, m < z → q_X9_tellTrap N z v1 v2 v3 v4 (nI (m + 4)) τ ∧ ∃ τ1, l_X9_tellTrap N z v1 v2 v3 v4 (nI (m + 4)) τ = u_X9_tellTrap_h0_8 N v1 v2 v3 v4 (nI 4) τ1 ∧ τ1.2 = τ.2 ∧ (∀ q j, ¬ (q = 469 ∧ 41 ≤ j ∧ j < 41 + m) → τ1.1 q j = τ.1 q j) ∧ ∀ j, 41 ≤ j → j < 41 + m → τ1.1 469 j = τ.1 469 (j - 5) := by
  intro m
  induction m with
  | zero =>
    intro τ _ z hz
    obtain ⟨z, rfl⟩ : ∃ y, z = y + 1 := ⟨z - 1, by omega⟩
    have c : nI (0 + 4) < 5 := by decide
    rw [q_X9_tellTrap, l_X9_tellTrap, if_pos c]
    exact ⟨fun y => absurd c y, τ, rfl, rfl, fun _ _ _ => rfl, fun j h1 h2 => absurd h1 (by omega)⟩
  | succ m ih =>
    intro τ hm z hz
    obtain ⟨z, rfl⟩ : ∃ y, z = y + 1 := ⟨z - 1, by omega⟩
    have c : ¬ nI (m + 1 + 4) < 5 := nI_nlt (b := 5) (by omega) (by omega)
    have e1 : (36 : Int32) + nI (m + 1 + 4) = nI (41 + m) := by
      rw [(show (36 : Int32) = nI 36 from rfl), nI_add]
      congr 1
      omega
    have e2 : nI (41 + m) - 5 = nI (36 + m) := by
      rw [(show (5 : Int32) = nI 5 from rfl), pk_sub (by omega)]
      congr 1
      omega
    have e3 : nI (m + 1 + 4) + (-1) = nI (m + 4) := by
      rw [nI_m1 (by omega)]
      congr 1
    have eu : u_X9_tellTrap_h0_9 N v1 v2 v3 v4 (nI (m + 1 + 4)) τ = zuI τ 469 (41 + m) (τ.1 469 (36 + m)) := by
      unfold u_X9_tellTrap_h0_9
      rw [e1, e2, nI_clamp (by omega), nI_clamp (by omega)]
    rw [q_X9_tellTrap, l_X9_tellTrap, if_neg c, eu, e1, e2, e3]
    obtain ⟨r1, τ1, r2, r3, r4, r5⟩ := ih (zuI τ 469 (41 + m) (τ.1 469 (36 + m))) (by omega) z (by omega)
    refine ⟨fun _ => ⟨vp_in_nI (by omega) (by decide), vp_in_nI (by omega) (by decide), r1⟩, τ1, r2, r3, fun q j hq => ?_, fun j h1 h2 => ?_⟩
    · rw [r4 q j (by omega), gI_n (by omega)]
    · by_cases c1 : j = 41 + m
      · rw [r4 469 j (by omega), gI_h rfl c1, c1, show 41 + m - 5 = 36 + m by omega]
      · rw [r5 j h1 (by omega), gI_n (by omega)]
theorem rf_trap {N : Nat} {kd t m o : Int32} {τ : zS} {A : Nat → Int32} (hN : 100 < N) (h : MRel τ A) : p_X9_tellTrap kd t m o N τ ∧ MRel (s_X9_tellTrap kd t m o N τ) (aTrap A kd t m o) ∧ rfr sN τ (s_X9_tellTrap kd t m o N τ) := by
  obtain ⟨r1, τ1, r2, r3, r4, r5⟩ := rf_shift (N := N) (v1 := kd) (v2 := t) (v3 := m) (v4 := o) 95 τ (Nat.le_refl _) N (by omega)
  have es : s_X9_tellTrap kd t m o N τ = u_X9_tellTrap_h0_8 N kd t m o (nI 4) τ1 := r2
  have e : s_X9_tellTrap kd t m o N τ = zuI (zuI (zuI (zuI (zuI (zuI (zuI (zuI τ1 469 36 kd) 469 37 t) 469 38 m) 469 39 o) 469 40 (A 0)) 469 11 (f_X9_less 20 (A 11 + 1))) 469 1 (A 1 + 1)) 469 2 (A 2 + m) := by
    rw [es]
    unfold u_X9_tellTrap_h0_8 u_X9_tellTrap_h0_7 u_X9_tellTrap_h0_6 u_X9_tellTrap_h0_5 u_X9_tellTrap_h0_4 u_X9_tellTrap_h0_3 u_X9_tellTrap_h0_2 u_X9_tellTrap_h0_1
    simp (disch := omega) only [gI_n, gI_h]
    rw [r4 469 0 (by omega), r4 469 1 (by omega), r4 469 2 (by omega), r4 469 11 (by omega), h 0 (by omega), h 1 (by omega), h 2 (by omega), h 11 (by omega)]
  refine ⟨r1, ?_, ?_⟩
  · rw [e]
    intro i hi
    unfold aTrap
    by_cases c1 : i = 1
    · rw [if_pos c1, gI_n (by omega), gI_h rfl c1]
    rw [if_neg c1]
    by_cases c2 : i = 2
    · rw [if_pos c2, gI_h rfl c2]
    rw [if_neg c2]
    by_cases c3 : i = 11
    · rw [if_pos c3, gI_n (by omega), gI_n (by omega), gI_h rfl c3]
    rw [if_neg c3, gI_n (by omega), gI_n (by omega), gI_n (by omega)]
    by_cases c4 : 41 ≤ i ∧ i < 136
    · rw [if_pos c4, gI_n (by omega), gI_n (by omega), gI_n (by omega), gI_n (by omega), gI_n (by omega), r5 i c4.1 c4.2]
      exact h (i - 5) (by omega)
    rw [if_neg c4]
    by_cases c5 : i = 36
    · rw [if_pos c5, gI_n (by omega), gI_n (by omega), gI_n (by omega), gI_n (by omega), gI_h rfl c5]
    rw [if_neg c5]
    by_cases c6 : i = 37
    · rw [if_pos c6, gI_n (by omega), gI_n (by omega), gI_n (by omega), gI_h rfl c6]
    rw [if_neg c6]
    by_cases c7 : i = 38
    · rw [if_pos c7, gI_n (by omega), gI_n (by omega), gI_h rfl c7]
    rw [if_neg c7]
    by_cases c8 : i = 39
    · rw [if_pos c8, gI_n (by omega), gI_h rfl c8]
    rw [if_neg c8]
    by_cases c9 : i = 40
    · rw [if_pos c9, gI_h rfl c9]
    rw [if_neg c9, gI_n (by omega), gI_n (by omega), gI_n (by omega), gI_n (by omega), gI_n (by omega), r4 469 i (by omega)]
    exact h i hi
  · rw [e]
    have hb : rfr sN τ τ1 := ⟨r3, fun q j hq => r4 q j (fun z => hq (by unfold sN; omega))⟩
    exact (((((((hb.uI (show sN _ _ from ⟨rfl, by omega⟩)).uI (show sN _ _ from ⟨rfl, by omega⟩)).uI (show sN _ _ from ⟨rfl, by omega⟩)).uI (show sN _ _ from ⟨rfl, by omega⟩)).uI (show sN _ _ from ⟨rfl, by omega⟩)).uI (show sN _ _ from ⟨rfl, by omega⟩)).uI (show sN _ _ from ⟨rfl, by omega⟩)).uI (show sN _ _ from ⟨rfl, by omega⟩)
