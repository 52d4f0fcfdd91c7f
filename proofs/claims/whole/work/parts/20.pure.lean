/-- a number from 0 on is a natural one -/
theorem int_nat {x : Int32} {N : Nat} (hN : N < 2 ^ 31) (h0 : 0 ≤ x) (h1 : x ≤ nI N) : ∃ n, n ≤ N ∧ x = nI n := by
  have a0 : 0 ≤ x.toInt := Int32.le_iff_toInt_le.mp h0
  have a1 : x.toInt ≤ (nI N).toInt := Int32.le_iff_toInt_le.mp h1
  rw [nI_toInt hN] at a1
  refine ⟨x.toInt.toNat, by omega, Int32.toInt_inj.mp ?_⟩
  rw [nI_toInt (by omega)]
  omega
theorem bit_set : ∀ b, b < 1024 → ∀ j, j < 10 → nI b ||| (1 <<< (nI j &&& 31)) = nI (b ||| 2 ^ j) := by decide +kernel
/-- rooms that are not there have no doors -/
def VX (σ : Sg) : Prop := ∀ i, kR σ ≤ i → sJn σ i = 0
theorem VS.s0_ok : VS s0 := ⟨⟨by decide, by decide, by decide, by decide⟩, fun i hi => absurd hi (Nat.not_lt_zero i), fun i hi => absurd hi (Nat.not_lt_zero i), fun i hi => absurd hi (Nat.not_lt_zero i), fun _ => ⟨0, by decide, rfl⟩⟩
theorem VX.s0_ok : VX s0 := fun _ _ => rfl
theorem nw_s {f : Nat → Nat → Int32} {i c : Nat} {x : Nat → Int32} : nw f i x i c = x c := if_pos rfl
theorem nw_n {f : Nat → Nat → Int32} {i r c : Nat} {x : Nat → Int32} (h : r ≠ i) : nw f i x r c = f r c := if_neg h
theorem VS.fu_ok {σ : Sg} (hv : VS σ) (hn : kR σ < 10) {xb xc xq : Int32} (hc : 0 ≤ xc ∧ xc ≤ 9) : VS (fuS σ xb xc xq) := by
  obtain ⟨⟨a1, a2, a3, a4⟩, b, c, d, e⟩ := hv
  refine ⟨⟨by show kR σ + 1 ≤ 10; omega, a2, a3, a4⟩, fun i (hi : i < kR σ + 1) => ?_, fun i hi => ?_, fun i hi => ?_, fun i => ?_⟩
  · show 0 ≤ nw (sRm σ) (kR σ) (rowR xb xc xq) i 1 ∧ nw (sRm σ) (kR σ) (rowR xb xc xq) i 1 ≤ 9
    by_cases q : i = kR σ
    · subst q; rw [nw_s]; exact hc
    · rw [nw_n q]; exact b i (by omega)
  · obtain ⟨r, w, h1, h2, h3⟩ := c i hi
    exact ⟨r, w, by show r < kR σ + 1; omega, h2, h3⟩
  · exact (d i hi).imp id (fun ⟨r, h1, h2⟩ => ⟨r, by show r < kR σ + 1; omega, h2⟩)
  · obtain ⟨n, h1, h2⟩ := e i
    exact ⟨n, by show n < 2 ^ (kR σ + 1); rw [Nat.pow_succ]; omega, h2⟩
theorem VX.fu_ok {σ : Sg} (hx : VX σ) (xb xc xq : Int32) : VX (fuS σ xb xc xq) := fun i (hi : kR σ + 1 ≤ i) => hx i (by omega)
theorem VS.ha_ok {σ : Sg} (hv : VS σ) (hn : kG σ < 5) {k : Nat} (hk : k < kR σ) {xf xw xb : Int32} (hw : 0 ≤ xw ∧ xw ≤ 11) : VS (haS σ (nI k) xf xw xb) := by
  obtain ⟨⟨a1, a2, a3, a4⟩, b, c, d, e⟩ := hv
  refine ⟨⟨a1, by show kG σ + 1 ≤ 5; omega, a3, a4⟩, b, fun i (hi : i < kG σ + 1) => ?_, d, e⟩
  show ∃ r w, r < kR σ ∧ w < 12 ∧ nw (sGh σ) (kG σ) (rowG (nI k) xf xw xb) i 0 = nI r ∧ nw (sGh σ) (kG σ) (rowG (nI k) xf xw xb) i 2 = nI w
  by_cases q : i = kG σ
  · subst q
    obtain ⟨n, h1, h2⟩ := int_nat (N := 11) (by decide) hw.1 hw.2
    exact ⟨k, n, hk, by omega, by rw [nw_s]; rfl, by rw [nw_s]; exact h2⟩
  · obtain ⟨r, w, h1, h2, h3, h4⟩ := c i (by omega)
    exact ⟨r, w, h1, h2, by rw [nw_n q]; exact h3, by rw [nw_n q]; exact h4⟩
theorem VS.co_ok {σ : Sg} (hv : VS σ) (hn : kU σ < 12) (xc xn xv : Int32) : VS (coS σ xc xn xv) := by
  obtain ⟨⟨a1, a2, a3, a4⟩, b, c, d, e⟩ := hv
  refine ⟨⟨a1, a2, by show kU σ + 1 ≤ 12; omega, a4⟩, b, c, fun i (hi : i < kU σ + 1) => ?_, e⟩
  show nw (sGu σ) (kU σ) (rowU xc xn xv) i 3 = -1 ∧ nw (sGu σ) (kU σ) (rowU xc xn xv) i 4 = 0 ∨ ∃ r, r < kR σ ∧ nw (sGu σ) (kU σ) (rowU xc xn xv) i 3 = nI r ∧ 1 ≤ nw (sGu σ) (kU σ) (rowU xc xn xv) i 4 ∧ nw (sGu σ) (kU σ) (rowU xc xn xv) i 4 ≤ 200
  by_cases q : i = kU σ
  · subst q
    rw [nw_s, nw_s]
    exact Or.inl ⟨rfl, rfl⟩
  · rw [nw_n q, nw_n q]
    exact d i (by omega)
theorem VS.bi_ok {σ : Sg} (hv : VS σ) {u k : Nat} (hk : k < kR σ) {z : Int32} (hz : 1 ≤ z ∧ z ≤ 200) : VS (biS σ u k z) := by
  obtain ⟨a, b, c, d, e⟩ := hv
  refine ⟨a, b, c, fun i hi => ?_, e⟩
  show up2 (up2 (sGu σ) u 3 (nI k)) u 4 z i 3 = -1 ∧ up2 (up2 (sGu σ) u 3 (nI k)) u 4 z i 4 = 0 ∨ ∃ r, r < kR σ ∧ up2 (up2 (sGu σ) u 3 (nI k)) u 4 z i 3 = nI r ∧ 1 ≤ up2 (up2 (sGu σ) u 3 (nI k)) u 4 z i 4 ∧ up2 (up2 (sGu σ) u 3 (nI k)) u 4 z i 4 ≤ 200
  by_cases q : i = u
  · subst q
    rw [up2_n (by omega), up2_s, up2_s]
    exact Or.inr ⟨k, hk, rfl, hz⟩
  · rw [up2_n (by omega), up2_n (by omega), up2_n (by omega), up2_n (by omega)]
    exact d i hi
theorem VS.dr_ok {σ : Sg} (hv : VS σ) {a b : Nat} (ha : a < kR σ) (hb : b < kR σ) (hf : kD σ < 20) : VS (drS σ a b) := by
  obtain ⟨⟨a1, a2, a3, a4⟩, b0, c, d, e⟩ := hv
  have key : ∀ i j, j < kR σ → ∃ n, n < 2 ^ kR σ ∧ sJn σ i ||| (1 <<< (nI j &&& 31)) = nI n := by
    intro i j hj
    obtain ⟨n, h1, h2⟩ := e i
    have h3 : n < 1024 := Nat.lt_of_lt_of_le h1 (Nat.pow_le_pow_right (n := 2) (by decide) a1)
    exact ⟨n ||| 2 ^ j, Nat.or_lt_two_pow h1 (Nat.pow_lt_pow_right (by decide) hj), by rw [h2]; exact bit_set n h3 j (by omega)⟩
  refine ⟨⟨a1, a2, a3, by show kD σ + 1 ≤ 20; omega⟩, b0, c, d, fun i => ?_⟩
  show ∃ n, n < 2 ^ kR σ ∧ (if i = b then sJn σ b ||| (1 <<< (nI a &&& 31)) else if i = a then sJn σ a ||| (1 <<< (nI b &&& 31)) else sJn σ i) = nI n
  by_cases q : i = b
  · rw [if_pos q]; exact key b a ha
  · rw [if_neg q]
    by_cases q2 : i = a
    · rw [if_pos q2]; exact key a b hb
    · rw [if_neg q2]; exact e i
theorem VX.dr_ok {σ : Sg} (hx : VX σ) {a b : Nat} (ha : a < kR σ) (hb : b < kR σ) : VX (drS σ a b) := fun i (hi : kR σ ≤ i) => by
  show (if i = b then sJn σ b ||| (1 <<< (nI a &&& 31)) else if i = a then sJn σ a ||| (1 <<< (nI b &&& 31)) else sJn σ i) = 0
  rw [if_neg (by omega), if_neg (by omega)]
  exact hx i hi
theorem cS_j (σ : Sg) : ∀ i, sJn (cS σ i) = sJn σ
  | 0 => rfl
  | i + 1 => (ltF_k _ _).2.2.1.trans (cS_j σ i)
theorem VS.ng_ok {σ : Sg} (hv : VS σ) : VS (ngS σ) := VS.dS_ok (VS.cS_ok hv (kR σ)) (kU σ)
theorem VX.ng_ok {σ : Sg} (hx : VX σ) : VX (ngS σ) := fun i hi => by
  have e1 : sJn (ngS σ) = sJn σ := (dS_o (cS σ (kR σ)) (kU σ)).2.2.1.trans (cS_j σ (kR σ))
  have e2 : kR (ngS σ) = kR σ := congrArg (fun q => q.1) ((dS_k (cS σ (kR σ)) (kU σ)).trans (cS_k σ (kR σ)))
  rw [e1]
  exact hx i (e2 ▸ hi)
