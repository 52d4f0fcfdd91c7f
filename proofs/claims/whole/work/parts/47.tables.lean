/-! MOST: WHAT THE TABLES HOLD; BOTH AGREE -/
theorem xor_bit : ∀ a, a < 1024 → ∀ r, r < 10 → (a ^^^ 2 ^ r < a ↔ a.testBit r = true) := by decide +kernel
def zB (z : Nat → Nat) (a : Nat) : Nat → Nat := sumN (fun r => if a.testBit r = true then z r else 0)
theorem zB_xor {z : Nat → Nat} {a r n : Nat} (hr : r < n) (h : a.testBit r = true) : zB z a n = zB z (a ^^^ 2 ^ r) n + z r := by
  have h1 := sumN_put (f := fun q => if (a ^^^ 2 ^ r).testBit q = true then z q else 0) (g := fun q => if a.testBit q = true then z q else 0) (r := r) n (fun q hq hne => by
    rw [Nat.testBit_xor, Nat.testBit_two_pow, decide_eq_false (fun e => hne e.symm), Bool.xor_false]) hr
  have h2 : (if (a ^^^ 2 ^ r).testBit r = true then z r else 0) = 0 := by
    rw [Nat.testBit_xor, Nat.testBit_two_pow, h, decide_eq_true rfl]
    rfl
  have h3 : (if a.testBit r = true then z r else 0) = z r := if_pos h
  rw [h2, h3] at h1
  exact h1
theorem zB_le {z : Nat → Nat} {a : Nat} : ∀ n, n ≤ 10 → zB z a n ≤ sumN z 10 := fun n hn => by
  have h1 : zB z a n ≤ sumN z n := sumN_le n fun q _ => by split <;> omega
  have h2 : ∀ k, sumN z n ≤ sumN z (n + k) := fun k => by
    induction k with
    | zero => exact Nat.le_refl _
    | succ k ih => exact Nat.le_trans ih (Nat.le_add_right _ _)
  have h3 := h2 (10 - n)
  rw [show n + (10 - n) = 10 by omega] at h3
  omega
theorem m1_lt {k : Nat} (hk : k < 2 ^ 31) : ¬ nI k < -1 := fun h => by
  rw [Int32.lt_iff_toInt_lt, nI_toInt hk, show (-1 : Int32).toInt = -1 from rfl] at h
  omega
theorem m1_le {k : Nat} (hk : k < 2 ^ 31) : ¬ nI k ≤ -1 := fun h => by
  rw [Int32.le_iff_toInt_le, nI_toInt hk, show (-1 : Int32).toInt = -1 from rfl] at h
  omega
theorem pR_10 {σ : Sg} (hv : VS σ) : kR σ ≤ 10 ∧ pR σ ≤ 1024 := ⟨hv.1.1, Nat.pow_le_pow_right (n := 2) (by decide) hv.1.1⟩
theorem dpT_up {σ : Sg} (hv : VS σ) {y z : Nat → Nat} (hd : ∀ g r, g < kU σ → r < kR σ → ¬ sGu σ g 3 = -1 → sui σ g r = true → pw σ g ≤ y g + z r) : ∀ u, u ≤ kU σ → ∀ a, a < pR σ → dpT σ u a = -1 ∨ ∃ k, dpT σ u a = nI k ∧ k ≤ 200 * u ∧ k ≤ sumN y u + zB z a (kR σ)
  | 0, _, a, _ => by
    show (if a = 0 then (0 : Int32) else -1) = -1 ∨ _
    by_cases h : a = 0
    · refine Or.inr ⟨0, ?_, Nat.zero_le _, Nat.zero_le _⟩
      show (if a = 0 then (0 : Int32) else -1) = nI 0
      rw [if_pos h]; rfl
    · exact Or.inl (if_neg h)
  | u + 1, hu, a, ha => by
    have ih := dpT_up hv hd u (by omega)
    obtain ⟨hR, hP⟩ := pR_10 hv
    have hw : ∀ x : Int32, (x = -1 ∨ ∃ k, x = nI k ∧ k ≤ 200 * u ∧ k ≤ sumN y u + zB z a (kR σ)) → x = -1 ∨ ∃ k, x = nI k ∧ k ≤ 200 * (u + 1) ∧ k ≤ sumN y (u + 1) + zB z a (kR σ) := fun x h => by
      rcases h with h | ⟨k, h1, h2, h3⟩
      · exact Or.inl h
      · refine Or.inr ⟨k, h1, by omega, ?_⟩
        rw [sumN]; omega
    rw [dpT]
    split
    · exact hw _ (ih a ha)
    · rename_i hb
      unfold dpN
      split
      · rename_i h0
        exact hw _ (h0 ▸ ih a ha)
      · have key : ∀ r, r ≤ kR σ → dpR σ u (dpT σ u) a r = -1 ∨ ∃ k, dpR σ u (dpT σ u) a r = nI k ∧ k ≤ 200 * (u + 1) ∧ k ≤ sumN y (u + 1) + zB z a (kR σ) := fun r => by
          induction r with
          | zero => exact fun _ => hw _ (ih a ha)
          | succ r ihr =>
            intro hr
            have ihr := ihr (by omega)
            rw [dpR]
            split
            · rename_i hc
              split
              · obtain ⟨c1, c2, c3⟩ := hc
                obtain ⟨k, e, k1, k2⟩ := (ih (a ^^^ 2 ^ r) (by omega)).resolve_left c2
                refine Or.inr ⟨k + pw σ u, ?_, ?_, ?_⟩
                · rw [e, (pw_ok hv (show u < kU σ by omega)).1, nI_add]
                · have := (pw_ok hv (show u < kU σ by omega)).2
                  omega
                · have h1 := hd u r (by omega) (by omega) hb c3
                  have h2 := (xor_bit a (by omega) r (by omega)).mp c1
                  rw [zB_xor (show r < kR σ by omega) h2, sumN]
                  omega
              · exact ihr
            · exact ihr
        exact key (kR σ) (Nat.le_refl _)
theorem mdM_up {σ : Sg} (hv : VS σ) {y z : Nat → Nat} (hd : ∀ g r, g < kU σ → r < kR σ → ¬ sGu σ g 3 = -1 → sui σ g r = true → pw σ g ≤ y g + z r) : ∀ u, u ≤ kU σ → ∃ k, mdM σ u = nI k ∧ k ≤ 200 * u ∧ k ≤ sumN y u + sumN z 10
  | 0, _ => ⟨0, rfl, Nat.zero_le _, Nat.zero_le _⟩
  | u + 1, hu => by
    obtain ⟨k, e, k1, k2⟩ := mdM_up hv hd u (by omega)
    obtain ⟨hR, hP⟩ := pR_10 hv
    have hw : k ≤ 200 * (u + 1) ∧ k ≤ sumN y (u + 1) + sumN z 10 := ⟨by omega, by rw [sumN]; omega⟩
    rw [mdM]
    split
    · exact ⟨k, e, hw⟩
    · rename_i hb
      have key : ∀ i, i ≤ pR σ - 1 → ∃ k, mdS σ u (dpT σ u) (mdM σ u) i = nI k ∧ k ≤ 200 * (u + 1) ∧ k ≤ sumN y (u + 1) + sumN z 10 := fun i => by
        induction i with
        | zero => exact fun _ => ⟨k, e, hw⟩
        | succ i ihi =>
          intro hi
          obtain ⟨k, e, hw⟩ := ihi (by omega)
          rw [mdS]
          split
          · rename_i hlt
            have h1 := dpT_up hv hd (u + 1) hu (pR σ - 1 - i) (by omega)
            rw [dpT, if_neg hb] at h1
            rcases h1 with h1 | ⟨k9, h1, h2, h3⟩
            · rw [h1, e] at hlt
              obtain ⟨⟨-, -, hU, -⟩, -⟩ := id hv
              exact absurd hlt (m1_lt (by omega))
            · exact ⟨k9, h1, h2, Nat.le_trans h3 (Nat.add_le_add_left (zB_le _ hR) _)⟩
          · exact ⟨k, e, hw⟩
      exact key _ (Nat.le_refl _)
theorem dpR_le {σ : Sg} {u a : Nat} {T : Nat → Int32} (r : Nat) : dpR σ u T a r ≤ dpR σ u T a (r + 1) := by
  rw [dpR]
  split
  · split
    · rename_i h; exact Int32.le_of_lt h
    · exact Int32.le_refl _
  · exact Int32.le_refl _
theorem dpR_mono {σ : Sg} {u a : Nat} {T : Nat → Int32} (r : Nat) : ∀ k, dpR σ u T a r ≤ dpR σ u T a (r + k)
  | 0 => Int32.le_refl _
  | k + 1 => Int32.le_trans (dpR_mono r k) (dpR_le (r + k))
theorem dpN_same {σ : Sg} {u a : Nat} {T : Nat → Int32} : T a ≤ dpN σ u T a := by
  unfold dpN
  split
  · rename_i h; rw [h]; exact Int32.le_refl _
  · have := dpR_mono (σ := σ) (u := u) (a := a) (T := T) 0 (kR σ)
    rw [Nat.zero_add] at this
    exact this
theorem dpN_take {σ : Sg} {u a r : Nat} {T : Nat → Int32} (hr : r < kR σ) (h : a ^^^ 2 ^ r < a ∧ ¬ T (a ^^^ 2 ^ r) = -1 ∧ sui σ u r = true) : T (a ^^^ 2 ^ r) + sGu σ u 4 ≤ dpN σ u T a := by
  unfold dpN
  rw [if_neg (by omega)]
  have h1 : T (a ^^^ 2 ^ r) + sGu σ u 4 ≤ dpR σ u T a (r + 1) := by
    rw [dpR, if_pos h]
    split
    · exact Int32.le_refl _
    · rename_i h2; exact Int32.not_lt.mp h2
  have h2 := dpR_mono (σ := σ) (u := u) (a := a) (T := T) (r + 1) (kR σ - (r + 1))
  rw [show r + 1 + (kR σ - (r + 1)) = kR σ by omega] at h2
  exact Int32.le_trans h1 h2
theorem mdS_le {σ : Sg} {u : Nat} {T : Nat → Int32} {m0 : Int32} (i : Nat) : mdS σ u T m0 i ≤ mdS σ u T m0 (i + 1) := by
  rw [mdS]
  split
  · rename_i h; exact Int32.le_of_lt h
  · exact Int32.le_refl _
theorem mdS_mono {σ : Sg} {u : Nat} {T : Nat → Int32} {m0 : Int32} (i : Nat) : ∀ k, mdS σ u T m0 i ≤ mdS σ u T m0 (i + k)
  | 0 => Int32.le_refl _
  | k + 1 => Int32.le_trans (mdS_mono i k) (mdS_le (i + k))
theorem mdS_take {σ : Sg} {u i : Nat} {T : Nat → Int32} {m0 : Int32} (hi : i < pR σ - 1) : dpN σ u T (pR σ - 1 - i) ≤ mdS σ u T m0 (pR σ - 1) := by
  have h1 : dpN σ u T (pR σ - 1 - i) ≤ mdS σ u T m0 (i + 1) := by
    rw [mdS]
    split
    · exact Int32.le_refl _
    · rename_i h2; exact Int32.not_lt.mp h2
  have h2 := mdS_mono (σ := σ) (u := u) (T := T) (m0 := m0) (i + 1) (pR σ - 1 - (i + 1))
  rw [show i + 1 + (pR σ - 1 - (i + 1)) = pR σ - 1 by omega] at h2
  exact Int32.le_trans h1 h2
theorem dpT_md {σ : Sg} : ∀ u a, a < pR σ → dpT σ u a ≤ mdM σ u
  | 0, a, _ => by
    show (if a = 0 then (0 : Int32) else -1) ≤ 0
    split <;> decide
  | u + 1, a, ha => by
    have ih := dpT_md u a ha
    rw [dpT, mdM]
    split
    · exact ih
    · by_cases h : a = 0
      · have h1 := mdS_mono (σ := σ) (u := u) (T := dpT σ u) (m0 := mdM σ u) 0 (pR σ - 1)
        rw [Nat.zero_add] at h1
        refine Int32.le_trans ?_ h1
        unfold dpN
        rw [if_pos h]
        rw [h] at ih
        exact ih
      · have h1 := mdS_take (σ := σ) (u := u) (T := dpT σ u) (m0 := mdM σ u) (i := pR σ - 1 - a) (by omega)
        rw [show pR σ - 1 - (pR σ - 1 - a) = a by omega] at h1
        exact h1
/-- a set of rooms as bits -/
def mk (P : Nat → Bool) : Nat → Nat
  | 0 => 0
  | n + 1 => if P n = true then mk P n ||| 2 ^ n else mk P n
theorem mk_bit {P : Nat → Bool} {r : Nat} : ∀ n, (mk P n).testBit r = (decide (r < n) && P r)
  | 0 => by rw [mk, Nat.zero_testBit, decide_eq_false (Nat.not_lt_zero _)]; rfl
  | n + 1 => by
    have ih := mk_bit (P := P) (r := r) n
    rw [mk]
    split
    · rename_i h
      rw [Nat.testBit_or, ih, Nat.testBit_two_pow]
      by_cases e : n = r
      · subst e; rw [decide_eq_true rfl, decide_eq_true (Nat.lt_succ_self _), h]; simp
      · rw [decide_eq_false e, Bool.or_false]
        congr 1
        exact decide_eq_decide.mpr (by omega)
    · rename_i h
      rw [ih]
      by_cases e : n = r
      · subst e; rw [Bool.eq_false_iff.mpr h]; simp
      · congr 1
        exact decide_eq_decide.mpr (by omega)
theorem mk_lt {P : Nat → Bool} : ∀ n, mk P n < 2 ^ n
  | 0 => by rw [mk]; decide
  | n + 1 => by
    have ih := mk_lt (P := P) n
    have h2 : 2 ^ n < 2 ^ (n + 1) := Nat.pow_lt_pow_right (by decide) (Nat.lt_succ_self _)
    rw [mk]
    split
    · exact Nat.or_lt_two_pow (by omega) h2
    · omega
theorem mk_put {P P' : Nat → Bool} {r n : Nat} (hr : r < n) (h1 : P' r = true) (h0 : P r = false) (h : ∀ q, q < n → q ≠ r → P' q = P q) : mk P' n ^^^ 2 ^ r = mk P n := by
  apply Nat.eq_of_testBit_eq
  intro q
  rw [Nat.testBit_xor, mk_bit, mk_bit, Nat.testBit_two_pow]
  by_cases e : r = q
  · subst e; rw [decide_eq_true rfl, decide_eq_true hr, h1, h0]; rfl
  · rw [decide_eq_false e, Bool.xor_false]
    by_cases hq : q < n
    · rw [h q hq (fun e2 => e e2.symm)]
    · rw [decide_eq_false hq, Bool.false_and, Bool.false_and]
theorem mk_cong {P P' : Nat → Bool} : ∀ n, (∀ q, q < n → P' q = P q) → mk P' n = mk P n
  | 0, _ => rfl
  | n + 1, h => by rw [mk, mk, h n (by omega), mk_cong n fun q hq => h q (by omega)]
/-- the rooms held by the guests below u -/
def hB (ho : Nat → Int32) (u q : Nat) : Bool := decide (¬ ho q = -1 ∧ (ho q).toNatClampNeg < u)
theorem hB_n {ho : Nat → Int32} {u q v : Nat} (hv : v < 12) (h : ho q = nI v) : hB ho u q = decide (v < u) := by
  unfold hB
  rw [h, nI_clamp (by omega)]
  exact decide_eq_decide.mpr ⟨fun h => h.2, fun h => ⟨nI_ne1 (by omega), h⟩⟩
theorem hB_0 {ho : Nat → Int32} {u q : Nat} (h : ho q = -1) : hB ho u q = false := decide_eq_false (fun h2 => h2.1 h)
def hS (w : Nat → Nat) (ho : Nat → Int32) (u : Nat) : Nat := sumN (fun q => if hB ho u q = true then wt w (ho q) else 0) 10
theorem dp_ge {σ : Sg} (hv : VS σ) {u a x : Nat} (hu : u ≤ kU σ) (ha : a < pR σ) (hx : x < 2 ^ 31) (h : nI x ≤ dpT σ u a) : ∃ k, dpT σ u a = nI k ∧ k ≤ 200 * u ∧ x ≤ k := by
  obtain ⟨⟨-, -, hU, -⟩, -⟩ := id hv
  rcases dpT_up hv (y := pw σ) (z := fun _ => 0) (fun _ _ _ _ _ _ => Nat.le_refl _) u hu a ha with h1 | ⟨k, h1, h2, -⟩
  · rw [h1] at h
    exact absurd h (m1_le hx)
  · rw [h1, nI_leI hx (by omega)] at h
    exact ⟨k, h1, h2, h⟩
theorem dp_low {σ : Sg} (hv : VS σ) {ho : Nat → Int32} (gV : ∀ q, q < 10 → ho q = -1 ∨ ∃ v, v < 12 ∧ ho q = nI v ∧ aq (alF σ v) q) (gI : INJ 0 ho) : ∀ u, u ≤ kU σ → ∃ k, dpT σ u (mk (hB ho u) (kR σ)) = nI k ∧ k ≤ 200 * u ∧ hS (pw σ) ho u ≤ k
  | 0, _ => by
    have h1 : ∀ q, hB ho 0 q = false := fun q => decide_eq_false (fun h => Nat.not_lt_zero _ h.2)
    have h2 : ∀ n, mk (hB ho 0) n = 0 := fun n => by
      induction n with
      | zero => rfl
      | succ n ih => rw [mk, h1, if_neg (by decide), ih]
    refine ⟨0, by rw [h2]; rfl, Nat.zero_le _, ?_⟩
    unfold hS
    rw [sumN_zero 10 fun q _ => by rw [h1]; rfl]
    exact Nat.le_refl _
  | u + 1, hu => by
    obtain ⟨k, e, hkb, hk⟩ := dp_low hv gV gI u (by omega)
    obtain ⟨hR, hP⟩ := pR_10 hv
    obtain ⟨⟨-, -, hU, -⟩, -⟩ := id hv
    have hlt := mk_lt (P := hB ho (u + 1)) (kR σ)
    by_cases hp : ∃ r, r < 10 ∧ ho r = nI u
    · obtain ⟨r, hr, hru⟩ := hp
      obtain ⟨v, hv2, e2, ha⟩ := (gV r hr).resolve_left (by rw [hru]; exact nI_ne1 (by omega))
      have e3 : u = v := (nI_eq (by omega) (by omega)).mp (hru.symm.trans e2)
      subst e3
      obtain ⟨-, hrR, hal⟩ := (aq_alF hR hr).mp ha
      simp only [alB, Bool.and_eq_true, decide_eq_true_eq] at hal
      have b1 : hB ho (u + 1) r = true := by rw [hB_n hv2 hru]; exact decide_eq_true (Nat.lt_succ_self _)
      have b0 : hB ho u r = false := by rw [hB_n hv2 hru]; exact decide_eq_false (Nat.lt_irrefl _)
      have bq : ∀ q, q < 10 → q ≠ r → hB ho (u + 1) q = hB ho u q := fun q hq hne => by
        rcases gV q hq with h | ⟨v2, h1, h2, -⟩
        · rw [hB_0 h, hB_0 h]
        · rw [hB_n h1 h2, hB_n h1 h2]
          refine decide_eq_decide.mpr ⟨fun h => ?_, fun h => by omega⟩
          have : v2 ≠ u := fun h3 => hne (gI q r hq hr aq_0 aq_0 (by rw [h2]; exact nI_ne1 (by omega)) (by rw [h2, hru, h3]))
          omega
      have hx := mk_put hrR b1 b0 (fun q hq hne => bq q (by omega) hne)
      have ht : (mk (hB ho (u + 1)) (kR σ)).testBit r = true := by rw [mk_bit, b1, decide_eq_true hrR]; rfl
      have hlt2 : mk (hB ho (u + 1)) (kR σ) < 1024 := Nat.lt_of_lt_of_le hlt hP
      have hc := (xor_bit _ hlt2 r hr).mpr ht
      have hd := dpN_take (σ := σ) (u := u) (T := dpT σ u) hrR ⟨hc, by rw [hx, e]; exact nI_ne1 (by omega), hal.2⟩
      rw [hx, e, (pw_ok hv (show u < kU σ by omega)).1, nI_add] at hd
      have hw := (pw_ok hv (show u < kU σ by omega)).2
      have he : dpT σ (u + 1) (mk (hB ho (u + 1)) (kR σ)) = dpN σ u (dpT σ u) (mk (hB ho (u + 1)) (kR σ)) := by
        rw [dpT, if_neg hal.1]
      rw [← he] at hd
      obtain ⟨k2, f1, f2, f3⟩ := dp_ge hv hu hlt (by omega) hd
      refine ⟨k2, f1, f2, ?_⟩
      have hs := sumN_put (f := fun q => if hB ho u q = true then wt (pw σ) (ho q) else 0) (g := fun q => if hB ho (u + 1) q = true then wt (pw σ) (ho q) else 0) (r := r) 10 (fun q hq hne => by rw [bq q hq hne]) hr
      have hs1 : (if hB ho u r = true then wt (pw σ) (ho r) else 0) = 0 := by rw [b0]; rfl
      have hs2 : (if hB ho (u + 1) r = true then wt (pw σ) (ho r) else 0) = pw σ u := by rw [if_pos b1, hru, wt_n hv2]
      rw [hs1, hs2] at hs
      have hs : hS (pw σ) ho (u + 1) + 0 = hS (pw σ) ho u + pw σ u := hs
      omega
    · have bq : ∀ q, q < 10 → hB ho (u + 1) q = hB ho u q := fun q hq => by
        rcases gV q hq with h | ⟨v2, h1, h2, -⟩
        · rw [hB_0 h, hB_0 h]
        · rw [hB_n h1 h2, hB_n h1 h2]
          refine decide_eq_decide.mpr ⟨fun h => ?_, fun h => by omega⟩
          have : v2 ≠ u := fun h3 => hp ⟨q, hq, by rw [h2, h3]⟩
          omega
      have hm : mk (hB ho (u + 1)) (kR σ) = mk (hB ho u) (kR σ) := mk_cong _ fun q hq => bq q (by omega)
      have hs : hS (pw σ) ho (u + 1) = hS (pw σ) ho u := sumN_cong 10 fun q hq => by rw [bq q hq]
      rw [hm, hs]
      rw [hm] at hlt
      by_cases hb : sGu σ u 3 = -1
      · refine ⟨k, ?_, by omega, hk⟩
        rw [dpT, if_pos hb]
        exact e
      · have hd := dpN_same (σ := σ) (u := u) (T := dpT σ u) (a := mk (hB ho u) (kR σ))
        rw [e] at hd
        have he : dpT σ (u + 1) (mk (hB ho u) (kR σ)) = dpN σ u (dpT σ u) (mk (hB ho u) (kR σ)) := by
          rw [dpT, if_neg hb]
        rw [← he] at hd
        obtain ⟨k2, f1, f2, f3⟩ := dp_ge hv hu hlt (by omega) hd
        exact ⟨k2, f1, f2, Nat.le_trans hk f3⟩
/-- what a guest would still gain -/
def yA (σ : Sg) (ho : Nat → Int32) (z : Nat → Nat) (g : Nat) : Nat := sumN (fun q => if ho q = nI g then pw σ g - z q else 0) 10
theorem sumN_ge {f : Nat → Nat} {r : Nat} : ∀ n, r < n → f r ≤ sumN f n
  | 0, h => absurd h (Nat.not_lt_zero _)
  | n + 1, h => by
    rw [sumN]
    by_cases e : r = n
    · rw [e]; omega
    · have := sumN_ge (f := f) n (show r < n by omega)
      omega
theorem most_ok {σ : Sg} (hv : VS σ) : (mgS σ (kU σ)).1 = mdM σ (kU σ) := by
  obtain ⟨z, gV, gI, gW, gA, gC, -, -⟩ := GI.all hv (kU σ)
  rw [mg_fin hv] at gC
  obtain ⟨hR, hP⟩ := pR_10 hv
  obtain ⟨⟨-, -, hU, -⟩, -⟩ := id hv
  rw [gW]
  generalize (mgS σ (kU σ)).2.2 = ho at *
  have hno : ∀ g, ¬ rem σ none g := fun g ⟨u, h, _⟩ => by cases h
  have hd : ∀ g r, g < kU σ → r < kR σ → ¬ sGu σ g 3 = -1 → sui σ g r = true → pw σ g ≤ yA σ ho z g + z r := fun g r hg hr hb hs => by
    have ha : aq (alF σ g) r := (aq_alF hR (by omega)).mpr ⟨hg, hr, by rw [alB, decide_eq_true hb, hs]; rfl⟩
    rcases gC g hg hb (hno g) with ⟨q, hq, h1⟩ | h1
    · have h2 : pw σ g - z q ≤ yA σ ho z g := by
        have h3 := sumN_ge (f := fun q => if ho q = nI g then pw σ g - z q else 0) (r := q) 10 hq
        have h4 : (if ho q = nI g then pw σ g - z q else 0) = pw σ g - z q := if_pos h1
        rw [h4] at h3
        exact h3
      rcases Nat.eq_zero_or_pos (z q) with h3 | h3
      · omega
      · obtain ⟨v, c1, c2, c3, c4⟩ := gA q hq h3
        have e : g = v := (nI_eq (by omega) (by omega)).mp (h1.symm.trans c2)
        subst e
        have := c4 r (by omega) ha
        omega
    · have := h1 r (by omega) ha
      omega
  have hz : ∀ q, q < 10 → ∀ v, v < 12 → ho q = nI v → z q ≤ pw σ v := fun q hq v hv2 h => by
    rcases Nat.eq_zero_or_pos (z q) with h3 | h3
    · omega
    · obtain ⟨v2, c1, c2, c3, c4⟩ := gA q hq h3
      have e : v = v2 := (nI_eq (by omega) (by omega)).mp (h.symm.trans c2)
      rw [e]; exact c3
  have hsum : sumN (yA σ ho z) (kU σ) + sumN z 10 ≤ wS (pw σ) ho := by
    have h1 : sumN (yA σ ho z) (kU σ) = sumN (fun q => sumN (fun g => if ho q = nI g then pw σ g - z q else 0) (kU σ)) 10 := sumN_swap (fun g q => if ho q = nI g then pw σ g - z q else 0) (kU σ) 10
    rw [h1, ← sumN_add]
    refine sumN_le 10 fun q hq => ?_
    rcases gV q hq with h | ⟨v, hv2, h, ha⟩
    · rw [sumN_zero (kU σ) fun g hg => if_neg (by rw [h]; exact fun e => nI_ne1 (show g < 2 ^ 31 by omega) e.symm)]
      rcases Nat.eq_zero_or_pos (z q) with h3 | h3
      · omega
      · obtain ⟨v, c1, c2, -⟩ := gA q hq h3
        exact absurd (c2.symm.trans h) (nI_ne1 (by omega))
    · have hvU := ((aq_alF hR hq).mp ha).1
      rw [sumN_cong (g := fun g => if g = v then pw σ v - z q else 0) (kU σ) fun g hg => by
        by_cases e : g = v
        · subst e; rw [if_pos h, if_pos rfl]
        · rw [if_neg (fun e2 => e ((nI_eq (by omega) (by omega)).mp (h.symm.trans e2)).symm), if_neg e], sumN_one _ hvU, h, wt_n hv2]
      have := hz q hq v hv2 h
      omega
  obtain ⟨k, e1, k1, k2⟩ := mdM_up hv hd (kU σ) (Nat.le_refl _)
  obtain ⟨j, e2, j1, j2⟩ := dp_low hv gV gI (kU σ) (Nat.le_refl _)
  have hle := dpT_md (σ := σ) (kU σ) (mk (hB ho (kU σ)) (kR σ)) (mk_lt _)
  rw [e1, e2, nI_leI (by omega) (by omega)] at hle
  have hS9 : hS (pw σ) ho (kU σ) = wS (pw σ) ho := sumN_cong 10 fun q hq => by
    rcases gV q hq with h | ⟨v, hv2, h, ha⟩
    · rw [hB_0 h, h]; rfl
    · rw [hB_n hv2 h, decide_eq_true ((aq_alF hR hq).mp ha).1, if_pos rfl]
  rw [e1]
  congr 1
  omega
