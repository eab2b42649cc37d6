/-! names on both sides -/
section IS
variable {nb N : Nat} {tx : Nat → Nat} {σ σ1 σ2 τ τ1 τ2 : zS}
def SW (tx : Nat → Nat) (a l s e : Nat) : Prop := l = e - s ∧ ∀ i, i < l → tx (a + i) = tx (s + i)
theorem sgn_inj {a b : Nat} (ha : a < 256) (hb : b < 256) : sgnB a = sgnB b ↔ a = b := by
  by_cases ca : a < 128
  · rw [show sgnB a = nI a from if_pos ca]
    exact sgn_eq ca hb
  · by_cases cb : b < 128
    · rw [show sgnB b = nI b from if_pos cb]
      constructor
      · intro y
        exact ((sgn_eq cb ha).mp y.symm).symm
      · intro y
        omega
    · rw [show sgnB a = nI a - 256 from if_neg ca, show sgnB b = nI b - 256 from if_neg cb]
      constructor
      · intro y
        refine (nI_eq (by omega) (by omega)).mp ?_
        have e1 : ∀ x : Int32, x - 256 + 256 = x := fun x => by grind
        rw [← e1 (nI a), y, e1]
      · intro y
        rw [y]
theorem cl_sameW {a l s e : Nat} (h : TC nb tx σ) (ha : a + l ≤ nb) (hse : s ≤ e) (he : e ≤ nb) (hN : 1003 < N) : p_X6_sameWords (nI a) (nI (a + l)) (nI s) (nI e) N σ ∧ ((f_X6_sameWords (nI a) (nI (a + l)) (nI s) (nI e) N σ = 1 ∧ SW tx a l s e) ∨ (f_X6_sameWords (nI a) (nI (a + l)) (nI s) (nI e) N σ = 0 ∧ ¬ SW tx a l s e)) := by
  have hn := h.2.2.1
  have ed : nI (a + l) - nI a = nI l := by rw [pk_sub (by omega)]; congr 1; omega
  have key : l = e - s → ∀ (m i : Nat), i + m = l → (∀ j, j < i → tx (a + j) = tx (s + j)) → ∀ z, m < z → q_X6_sameWords N z (nI a) (nI (a + l)) (nI s) (nI e) (nI i) σ ∧ ((l_X6_sameWords N z (nI a) (nI (a + l)) (nI s) (nI e) (nI i) σ = 1 ∧ SW tx a l s e) ∨ (l_X6_sameWords N z (nI a) (nI (a + l)) (nI s) (nI e) (nI i) σ = 0 ∧ ¬ SW tx a l s e)) := by
    intro ew m
    induction m with
    | zero =>
      intro i hi hj z hz
      obtain ⟨z, rfl⟩ : ∃ q, z = q + 1 := ⟨z - 1, by omega⟩
      have c : nI l ≤ nI i := nI_le (by omega) (by omega)
      rw [q_X6_sameWords, l_X6_sameWords, ed, if_pos c]
      exact ⟨fun y => absurd c y, Or.inl ⟨rfl, ew, fun j hj1 => hj j (by omega)⟩⟩
    | succ m ih =>
      intro i hi hj z hz
      obtain ⟨z, rfl⟩ : ∃ q, z = q + 1 := ⟨z - 1, by omega⟩
      have c : ¬ nI l ≤ nI i := nI_ge (by omega) (by omega)
      have b1 := (h.2.2.2 (a + i) (by omega)).1
      have b2 := (h.2.2.2 (s + i) (by omega)).1
      have t1 := h.at (p := a + i) (by omega)
      have t2 := h.at (p := s + i) (by omega)
      rw [q_X6_sameWords, l_X6_sameWords, ed, if_neg c, nI_add, nI_add, t1, t2, nI_1]
      by_cases k : tx (a + i) = tx (s + i)
      · have k' : nI (tx (a + i)) = nI (tx (s + i)) := by rw [k]
        obtain ⟨i1, i2⟩ := ih (i + 1) (by omega) (fun j hj1 => by
          by_cases ej : j = i
          · rw [ej]; exact k
          · exact hj j (by omega)) z (by omega)
        rw [if_pos k']
        exact ⟨fun _ => ⟨h.po.1, h.pat, h.pat, fun _ => i1⟩, i2⟩
      · have k' : ¬ nI (tx (a + i)) = nI (tx (s + i)) := fun y => k ((nI_eq (by omega) (by omega)).mp y)
        rw [if_neg k']
        exact ⟨fun _ => ⟨h.po.1, h.pat, h.pat, fun y => absurd y k'⟩, Or.inr ⟨rfl, fun y => k (y.2 i (by omega))⟩⟩
  unfold p_X6_sameWords f_X6_sameWords
  rw [ed, pk_sub hse]
  by_cases c : l = e - s
  · have c' : nI l = nI (e - s) := by rw [c]
    rw [if_pos c']
    obtain ⟨k1, k2⟩ := key c l 0 (by omega) (fun j hj => by omega) N (by omega)
    exact ⟨fun _ => k1, k2⟩
  · have c' : ¬ nI l = nI (e - s) := fun y => c ((nI_eq (by omega) (by omega)).mp y)
    rw [if_neg c']
    exact ⟨fun y => absurd y c', Or.inr ⟨rfl, fun y => c y.1⟩⟩
theorem rf_named {a l s e k : Nat} (h : TM nb tx τ) (hk : k < 10) (h7 : τ.1 487 k = nI a) (h8 : τ.1 488 k = nI l) (h3 : τ.1 468 21 = nI s) (h4 : τ.1 468 20 = nI e) (ha : a + l ≤ nb) (hse : s ≤ e) (he : e ≤ nb) (hN : 1003 < N) : p_X9_isNamed (nI k) N τ ∧ ((f_X9_isNamed (nI k) N τ = 1 ∧ SW tx a l s e) ∨ (f_X9_isNamed (nI k) N τ = 0 ∧ ¬ SW tx a l s e)) := by
  have hn := h.2.1
  have ck : (nI k).toNatClampNeg = k := nI_clamp (by omega)
  have pk : vp_in (nI k) 10 := vp_in_nI hk (by decide)
  have key : l = e - s → ∀ (m i : Nat), i + m = l → (∀ j, j < i → tx (a + j) = tx (s + j)) → ∀ z, m < z → q_X9_isNamed N z (nI k) (nI i) τ ∧ ((l_X9_isNamed N z (nI k) (nI i) τ = 1 ∧ SW tx a l s e) ∨ (l_X9_isNamed N z (nI k) (nI i) τ = 0 ∧ ¬ SW tx a l s e)) := by
    intro ew m
    induction m with
    | zero =>
      intro i hi hj z hz
      obtain ⟨z, rfl⟩ : ∃ q, z = q + 1 := ⟨z - 1, by omega⟩
      have c : nI l ≤ nI i := nI_le (by omega) (by omega)
      rw [q_X9_isNamed, l_X9_isNamed, ck, h8, if_pos c]
      exact ⟨⟨pk, fun y => absurd c y⟩, Or.inl ⟨rfl, ew, fun j hj1 => hj j (by omega)⟩⟩
    | succ m ih =>
      intro i hi hj z hz
      obtain ⟨z, rfl⟩ : ∃ q, z = q + 1 := ⟨z - 1, by omega⟩
      have c : ¬ nI l ≤ nI i := nI_ge (by omega) (by omega)
      obtain ⟨b1, t1⟩ := h.2.2.1 (a + i) (by omega)
      obtain ⟨b2, t2⟩ := h.2.2.1 (s + i) (by omega)
      rw [q_X9_isNamed, l_X9_isNamed, ck, h8, if_neg c, h7, h3, nI_add, nI_add, nI_clamp (by omega), nI_clamp (by omega), t1, t2, nI_1]
      have pa : vp_in (nI (a + i)) 1000 := vp_in_nI (by omega) (by decide)
      have pb : vp_in (nI (s + i)) 1000 := vp_in_nI (by omega) (by decide)
      by_cases k : tx (a + i) = tx (s + i)
      · have k' : sgnB (tx (a + i)) = sgnB (tx (s + i)) := by rw [k]
        obtain ⟨i1, i2⟩ := ih (i + 1) (by omega) (fun j hj1 => by
          by_cases ej : j = i
          · rw [ej]; exact k
          · exact hj j (by omega)) z (by omega)
        rw [if_pos k']
        exact ⟨⟨pk, fun _ => ⟨pa, pb, fun _ => i1⟩⟩, i2⟩
      · have k' : ¬ sgnB (tx (a + i)) = sgnB (tx (s + i)) := fun y => k ((sgn_inj b1 b2).mp y)
        rw [if_neg k']
        exact ⟨⟨pk, fun _ => ⟨pa, pb, fun y => absurd y k'⟩⟩, Or.inr ⟨rfl, fun y => k (y.2 i (by omega))⟩⟩
  unfold p_X9_isNamed f_X9_isNamed
  rw [ck, h8, h4, h3, pk_sub hse]
  by_cases c : l = e - s
  · have c' : nI l = nI (e - s) := by rw [c]
    rw [if_pos c']
    obtain ⟨k1, k2⟩ := key c l 0 (by omega) (fun j hj => by omega) N (by omega)
    exact ⟨⟨pk, fun _ => k1⟩, k2⟩
  · have c' : ¬ nI l = nI (e - s) := fun y => c ((nI_eq (by omega) (by omega)).mp y)
    rw [if_neg c']
    exact ⟨⟨pk, fun y => absurd y c'⟩, Or.inr ⟨rfl, fun y => c y.1⟩⟩
/-- the names of functions, of parameters -/
def NmF (nb nf : Nat) (fa fl : Nat → Nat) (σ τ : zS) : Prop := nf ≤ 6 ∧ ∀ i, i < nf → fa i + fl i ≤ nb ∧ σ.1 12 i = nI (fa i) ∧ σ.1 13 i = nI (fa i + fl i) ∧ τ.1 487 i = nI (fa i) ∧ τ.1 488 i = nI (fl i)
def NmP (nb np : Nat) (pa pl : Nat → Nat) (σ τ : zS) : Prop := np ≤ 4 ∧ ∀ i, i < np → pa i + pl i ≤ nb ∧ σ.1 14 i = nI (pa i) ∧ σ.1 15 i = nI (pa i + pl i) ∧ τ.1 487 (6 + i) = nI (pa i) ∧ τ.1 488 (6 + i) = nI (pl i)
theorem pr_fname {nf s e q : Nat} {fa fl : Nat → Nat} (h : TC nb tx σ) (g : TM nb tx τ) (hf : NmF nb nf fa fl σ τ) (hq : σ.2 2 1 = q + 1) (hl : zlay q = (2, 16)) (h6 : σ.1 q 6 = nI nf) (h3 : τ.1 468 21 = nI s) (h4 : τ.1 468 20 = nI e) (hse : s ≤ e) (he : e ≤ nb) (hN : 1003 < N) : p_X3_functionNamed (nI s) (nI e) N σ ∧ p_X9_functionHere (nI nf) N τ ∧ ((f_X3_functionNamed (nI s) (nI e) N σ = -1 ∧ f_X9_functionHere (nI nf) N τ = -1) ∨ ∃ k, k < nf ∧ f_X3_functionNamed (nI s) (nI e) N σ = nI k ∧ f_X9_functionHere (nI nf) N τ = nI k) := by
  have hf6 := hf.1
  have pp : (σ.2 2 1 ≠ 0 ∧ zlay (σ.2 2 1 - 1) = (2, 16)) := by rw [hq]; exact ⟨by omega, hl⟩
  have eq : σ.2 2 1 - 1 = q := by rw [hq]; rfl
  have key : ∀ (m k : Nat), k + m = nf → ∀ z y, m < z → m < y → q_X3_functionNamed N z (nI s) (nI e) (nI k) σ ∧ q_X9_functionHere N y (nI nf) (nI k) τ ∧ ((l_X3_functionNamed N z (nI s) (nI e) (nI k) σ = -1 ∧ l_X9_functionHere N y (nI nf) (nI k) τ = -1) ∨ ∃ j, j < nf ∧ l_X3_functionNamed N z (nI s) (nI e) (nI k) σ = nI j ∧ l_X9_functionHere N y (nI nf) (nI k) τ = nI j) := by
    intro m
    induction m with
    | zero =>
      intro k hk z y hz hy
      obtain ⟨z, rfl⟩ : ∃ q, z = q + 1 := ⟨z - 1, by omega⟩
      obtain ⟨y, rfl⟩ : ∃ q, y = q + 1 := ⟨y - 1, by omega⟩
      have c : nI nf ≤ nI k := nI_le (by omega) (by omega)
      rw [q_X3_functionNamed, l_X3_functionNamed, q_X9_functionHere, l_X9_functionHere, eq, h6, if_pos c, if_pos c]
      exact ⟨⟨by rw [← eq]; exact pp, fun w => absurd c w⟩, fun w => absurd c w, Or.inl ⟨rfl, rfl⟩⟩
    | succ m ih =>
      intro k hk z y hz hy
      obtain ⟨z, rfl⟩ : ∃ q, z = q + 1 := ⟨z - 1, by omega⟩
      obtain ⟨y, rfl⟩ : ∃ q, y = q + 1 := ⟨y - 1, by omega⟩
      have c : ¬ nI nf ≤ nI k := nI_ge (by omega) (by omega)
      obtain ⟨n0, n1, n2, n3, n4⟩ := hf.2 k (by omega)
      obtain ⟨u1, u2⟩ := cl_sameW (N := N) h n0 hse he hN
      obtain ⟨v1, v2⟩ := rf_named (N := N) g (by omega) n3 n4 h3 h4 n0 hse he hN
      obtain ⟨i1, i2, i3⟩ := ih (k + 1) (by omega) z y (by omega) (by omega)
      have n10 : ¬ (1 : Int32) = 0 := by decide
      rw [q_X3_functionNamed, l_X3_functionNamed, q_X9_functionHere, l_X9_functionHere, eq, h6, if_neg c, if_neg c, at_i (by omega) (by decide), at_i (by omega) (by decide), n1, n2, nI_1]
      have pp' : (σ.2 2 1 ≠ 0 ∧ zlay q = (2, 16)) := by rw [← eq]; exact pp
      rcases u2 with ⟨u2, u3⟩ | ⟨u2, u3⟩
      · rcases v2 with ⟨v2, v3⟩ | ⟨v2, v3⟩
        · rw [u2, v2, if_neg n10, if_neg n10]
          exact ⟨⟨pp', fun _ => ⟨at_p (by decide), at_p (by decide), u1, fun w => absurd w n10⟩⟩, fun _ => ⟨v1, fun w => absurd w n10⟩, Or.inr ⟨k, by omega, rfl, rfl⟩⟩
        · exact absurd u3 v3
      · rcases v2 with ⟨v2, v3⟩ | ⟨v2, v3⟩
        · exact absurd v3 u3
        · rw [u2, v2, if_pos rfl, if_pos rfl]
          exact ⟨⟨pp', fun _ => ⟨at_p (by decide), at_p (by decide), u1, fun _ => i1⟩⟩, fun _ => ⟨v1, fun _ => i2⟩, i3⟩
  exact key nf 0 (by omega) N N (by omega) (by omega)
theorem pr_pname {np s e : Nat} {pa pl : Nat → Nat} (h : TC nb tx σ) (g : TM nb tx τ) (hf : NmP nb np pa pl σ τ) (h7 : σ.1 2 7 = nI np) (g7 : τ.1 468 32 = nI np) (h3 : τ.1 468 21 = nI s) (h4 : τ.1 468 20 = nI e) (hse : s ≤ e) (he : e ≤ nb) (hN : 1003 < N) : p_X3_parameterNamed (nI s) (nI e) N σ ∧ p_X9_parameterHere N τ ∧ ((f_X3_parameterNamed (nI s) (nI e) N σ = -1 ∧ f_X9_parameterHere N τ = -1) ∨ ∃ k, k < np ∧ f_X3_parameterNamed (nI s) (nI e) N σ = nI k ∧ f_X9_parameterHere N τ = nI k) := by
  have hf6 := hf.1
  have key : ∀ (m k : Nat), k + m = np → ∀ z y, m < z → m < y → q_X3_parameterNamed N z (nI s) (nI e) (nI k) σ ∧ q_X9_parameterHere N y (nI k) τ ∧ ((l_X3_parameterNamed N z (nI s) (nI e) (nI k) σ = -1 ∧ l_X9_parameterHere N y (nI k) τ = -1) ∨ ∃ j, j < np ∧ l_X3_parameterNamed N z (nI s) (nI e) (nI k) σ = nI j ∧ l_X9_parameterHere N y (nI k) τ = nI j) := by
    intro m
    induction m with
    | zero =>
      intro k hk z y hz hy
      obtain ⟨z, rfl⟩ : ∃ q, z = q + 1 := ⟨z - 1, by omega⟩
      obtain ⟨y, rfl⟩ : ∃ q, y = q + 1 := ⟨y - 1, by omega⟩
      have c : nI np ≤ nI k := nI_le (by omega) (by omega)
      rw [q_X3_parameterNamed, l_X3_parameterNamed, q_X9_parameterHere, l_X9_parameterHere, h7, g7, if_pos c, if_pos c]
      exact ⟨fun w => absurd c w, fun w => absurd c w, Or.inl ⟨rfl, rfl⟩⟩
    | succ m ih =>
      intro k hk z y hz hy
      obtain ⟨z, rfl⟩ : ∃ q, z = q + 1 := ⟨z - 1, by omega⟩
      obtain ⟨y, rfl⟩ : ∃ q, y = q + 1 := ⟨y - 1, by omega⟩
      have c : ¬ nI np ≤ nI k := nI_ge (by omega) (by omega)
      obtain ⟨n0, n1, n2, n3, n4⟩ := hf.2 k (by omega)
      have e6 : (6 : Int32) + nI k = nI (6 + k) := nI_add 6 k
      obtain ⟨u1, u2⟩ := cl_sameW (N := N) h n0 hse he hN
      obtain ⟨v1, v2⟩ := rf_named (N := N) g (by omega) n3 n4 h3 h4 n0 hse he hN
      obtain ⟨i1, i2, i3⟩ := ih (k + 1) (by omega) z y (by omega) (by omega)
      have n10 : ¬ (1 : Int32) = 0 := by decide
      rw [q_X3_parameterNamed, l_X3_parameterNamed, q_X9_parameterHere, l_X9_parameterHere, h7, g7, if_neg c, if_neg c, at_i (by omega) (by decide), at_i (by omega) (by decide), n1, n2, nI_1, e6]
      rcases u2 with ⟨u2, u3⟩ | ⟨u2, u3⟩
      · rcases v2 with ⟨v2, v3⟩ | ⟨v2, v3⟩
        · rw [u2, v2, if_neg n10, if_neg n10]
          exact ⟨fun _ => ⟨at_p (by decide), at_p (by decide), u1, fun w => absurd w n10⟩, fun _ => ⟨v1, fun w => absurd w n10⟩, Or.inr ⟨k, by omega, rfl, rfl⟩⟩
        · exact absurd u3 v3
      · rcases v2 with ⟨v2, v3⟩ | ⟨v2, v3⟩
        · exact absurd v3 u3
        · rw [u2, v2, if_pos rfl, if_pos rfl]
          exact ⟨fun _ => ⟨at_p (by decide), at_p (by decide), u1, fun _ => i1⟩, fun _ => ⟨v1, fun _ => i2⟩, i3⟩
  exact key np 0 (by omega) N N (by omega) (by omega)
end IS
