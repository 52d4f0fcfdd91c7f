theorem hIH_congr {σ σ2 : Sg} (h1 : sGh σ2 = sGh σ) (h2 : sJn σ2 = sJn σ) (r : Int32) (h : Nat) (z : Int32) : ∀ n, hIH σ2 r h z n = hIH σ r h z n
  | 0 => rfl
  | n + 1 => by rw [hIH, hIH, hIH_congr h1 h2 r h z n, plc_congr h1 h2, h1]
theorem hON_congr {σ σ2 : Sg} (h1 : sGh σ2 = sGh σ) (h2 : sJn σ2 = sJn σ) (h3 : kG σ2 = kG σ) (r z : Int32) : ∀ n, hON σ2 r z n = hON σ r z n
  | 0 => rfl
  | n + 1 => by rw [hON, hON, hON_congr h1 h2 h3 r z n, hIH_congr h1 h2, h3]
/-- the class's state and the reference's within a night: the winners of the rooms before k still have their bids in the one, none in the other -/
def Rn (σ1 σ2 : Sg) (k : Nat) : Prop := (sRm σ1 = sRm σ2 ∧ sGh σ1 = sGh σ2 ∧ sJn σ1 = sJn σ2 ∧ σ1.2.2.2.2 = σ2.2.2.2.2) ∧ (∀ u j, j ≠ 3 → j ≠ 4 → sGu σ1 u j = sGu σ2 u j) ∧
  ∀ u, (sGu σ1 u 3 = sGu σ2 u 3 ∧ sGu σ1 u 4 = sGu σ2 u 4) ∨ (u < kU σ1 ∧ sGu σ2 u 3 = -1 ∧ sGu σ2 u 4 = 0 ∧ ∃ r, r < k ∧ sGu σ1 u 3 = nI r)
theorem Rn.cnt {σ1 σ2 : Sg} {k : Nat} (h : Rn σ1 σ2 k) (hk : k < 2 ^ 31) (u : Nat) : cntB σ1 u k = cntB σ2 u k ∧ (cntB σ1 u k = true → sGu σ1 u 4 = sGu σ2 u 4) := by
  obtain ⟨⟨a1, -, -, -⟩, b, c⟩ := h
  rcases c u with ⟨c1, c2⟩ | ⟨-, c1, -, r, hr, c3⟩
  · have e : cntB σ1 u k = cntB σ2 u k := by
      unfold cntB sui
      rw [c1, c2, a1, b u 0 (by decide) (by decide), b u 1 (by decide) (by decide)]
    exact ⟨e, fun _ => c2⟩
  · have e1 : cntB σ1 u k = false := by
      unfold cntB
      rw [c3, decide_eq_false (fun q => absurd ((nI_eq (by omega) hk).mp q) (by omega)), Bool.false_and]
    have e2 : cntB σ2 u k = false := by
      unfold cntB
      rw [c1, decide_eq_false (fun q => nI_ne1 hk q.symm), Bool.false_and]
    exact ⟨e1.trans e2.symm, fun q => by rw [e1] at q; cases q⟩
theorem Rn.q_wnA {σ1 σ2 : Sg} {k : Nat} (h : Rn σ1 σ2 k) (hk : k < 2 ^ 31) : ∀ n, wnA σ1 k n = wnA σ2 k n
  | 0 => rfl
  | n + 1 => by
    obtain ⟨e1, e2⟩ := h.cnt hk n
    have ih := Rn.q_wnA h hk n
    rw [wnA, wnA, ih, ← e1]
    by_cases q : cntB σ1 n k = true
    · rw [e2 q]
    · rw [if_neg (fun z => q z.1), if_neg (fun z => q z.1)]
theorem Rn.q_wnr {σ1 σ2 : Sg} {k : Nat} (h : Rn σ1 σ2 k) (hk : k < 2 ^ 31) : wnr σ1 k = wnr σ2 k := by
  have e : kU σ1 = kU σ2 := congrArg (fun q => q.1.2.2.1) h.1.2.2.2
  rw [wnr, wnr, h.q_wnA hk, e]
theorem Rn.q_duA {σ1 σ2 : Sg} {k : Nat} (h : Rn σ1 σ2 k) (hk : k < 2 ^ 31) (w : Int32) : ∀ n, duA σ1 k w n = duA σ2 k w n
  | 0 => by rw [duA, duA, h.1.1]
  | n + 1 => by
    obtain ⟨e1, e2⟩ := h.cnt hk n
    rw [duA, duA, Rn.q_duA h hk w n, ← e1]
    by_cases q : cntB σ1 n k = true
    · rw [e2 q]
    · rw [if_neg (fun z => q z.2), if_neg (fun z => q z.2)]
theorem Rn.q_due {σ1 σ2 : Sg} {k : Nat} (h : Rn σ1 σ2 k) (hk : k < 2 ^ 31) (w : Int32) : due σ1 k w = due σ2 k w := by
  have e : kU σ1 = kU σ2 := congrArg (fun q => q.1.2.2.1) h.1.2.2.2
  rw [due, due, h.q_duA hk, e]
theorem Rn.q_hON {σ1 σ2 : Sg} {k : Nat} (h : Rn σ1 σ2 k) (r z : Int32) (n : Nat) : hON σ1 r z n = hON σ2 r z n :=
  hON_congr h.1.2.1 h.1.2.2.1 (congrArg (fun q => q.1.2.1) h.1.2.2.2) r z n
theorem Rn.q_ltB {σ1 σ2 : Sg} {k : Nat} (h : Rn σ1 σ2 k) (hk : k < 2 ^ 31) (u : Nat) : ltB σ1 k u = ltB σ2 k u := by
  rw [ltB, ltB, h.q_hON, h.q_due hk, h.2.1 u 2 (by decide) (by decide)]
theorem lt_rmF (σ : Sg) (k u : Nat) : sRm (ltS4 σ k u) = up2 (up2 (up2 (sRm σ) k 1 (rcN (sRm σ k 1) (frB (sGu σ u 2) (hON σ (nI k) (-1) 12)))) k 3 (sRm σ k 3 + 1)) k 4 (sRm σ k 4 + (due σ k (nI u) - ltB σ k u)) := rfl
theorem Rn.step {σ1 σ2 : Sg} {k : Nat} (h : Rn σ1 σ2 k) (hk : k < 2 ^ 31) (hU : kU σ1 < 2 ^ 31) : Rn (ltF σ1 k) (mlF σ2 k) (k + 1) := by
  have ew := h.q_wnr hk
  by_cases hn : wnr σ1 k = -1
  · rw [ltF, if_pos hn, mlF, if_pos (ew ▸ hn)]
    exact ⟨h.1, h.2.1, fun u => (h.2.2 u).imp id (fun q => ⟨q.1, q.2.1, q.2.2.1, q.2.2.2.imp (fun r z => ⟨by omega, z.2⟩)⟩)⟩
  · obtain ⟨u, hu, e1, hc⟩ := (wnr_nat σ1 k).resolve_left hn
    have hn2 : ¬ wnr σ2 k = -1 := ew ▸ hn
    rw [ltF, if_neg hn, mlF, if_neg hn2, ← ew, e1, nI_clamp (by omega)]
    have eX := h.q_hON (nI k) (-1) 12
    have eD := h.q_due hk (nI u)
    have eB := h.q_ltB hk u
    have g0 := h.2.1 u 0 (by decide) (by decide)
    have g2 := h.2.1 u 2 (by decide) (by decide)
    have g5 := h.2.1 u 5 (by decide) (by decide)
    have g6 := h.2.1 u 6 (by decide) (by decide)
    have hf : sGu σ1 u 3 = nI k := by
      unfold cntB at hc
      exact of_decide_eq_true ((Bool.and_eq_true _ _).mp hc).1
    refine ⟨⟨?_, h.1.2.1, h.1.2.2.1, ?_⟩, fun v j h3 h4 => ?_, fun v => ?_⟩
    · show sRm (ltS4 σ1 k u) = sRm (ltS4 σ2 k u)
      rw [lt_rmF, lt_rmF, eX, eD, eB, h.1.1, g2]
    · show (σ1.2.2.2.2.1, sN σ1, sH σ1 + (due σ1 k (nI u) - ltB σ1 k u), sB σ1 + ltB σ1 k u) = (σ2.2.2.2.2.1, sN σ2, sH σ2 + (due σ2 k (nI u) - ltB σ2 k u), sB σ2 + ltB σ2 k u)
      unfold sN sH sB
      rw [eD, eB, h.1.2.2.2]
    · show sGu (ltS4 σ1 k u) v j = up2 (up2 (sGu (ltS4 σ2 k u)) u 3 (-1)) u 4 0 v j
      rw [up2_n (fun q => h4 q.1), up2_n (fun q => h3 q.1), lt_gu, lt_gu, eX, eD, eB, g0, g2, g5, g6]
      unfold up2
      rw [h.2.1 v j h3 h4]
    · rcases Nat.decEq v u with q | q
      · have e3 : sGu (uU (uU (ltS4 σ2 k u) u 3 (-1)) u 4 0) v 3 = sGu σ2 v 3 := by
          show up2 (up2 (sGu (ltS4 σ2 k u)) u 3 (-1)) u 4 0 v 3 = _
          rw [up2_n (fun z => q z.2), up2_n (fun z => q z.2), lt_gu3]
        have e4 : sGu (uU (uU (ltS4 σ2 k u) u 3 (-1)) u 4 0) v 4 = sGu σ2 v 4 := by
          show up2 (up2 (sGu (ltS4 σ2 k u)) u 3 (-1)) u 4 0 v 4 = _
          rw [up2_n (fun z => q z.2), up2_n (fun z => q z.2), lt_gu4]
        rw [e3, e4, lt_gu3, lt_gu4]
        exact (h.2.2 v).imp id (fun q => ⟨q.1, q.2.1, q.2.2.1, q.2.2.2.imp (fun r z => ⟨by omega, z.2⟩)⟩)
      · subst q
        refine Or.inr ⟨hu, ?_, ?_, k, by omega, by rw [lt_gu3]; exact hf⟩
        · show up2 (up2 (sGu (ltS4 σ2 k v)) v 3 (-1)) v 4 0 v 3 = -1
          rw [up2_n (by omega), up2_s]
        · show up2 (up2 (sGu (ltS4 σ2 k v)) v 3 (-1)) v 4 0 v 4 = 0
          rw [up2_s]
theorem Rn.all {σ : Sg} (hv : VS σ) : ∀ k, k ≤ kR σ → Rn (cS σ k) (mS σ k) k
  | 0, _ => ⟨⟨rfl, rfl, rfl, rfl⟩, fun _ _ _ _ => rfl, fun _ => Or.inl ⟨rfl, rfl⟩⟩
  | k + 1, hk => by
    have hR := hv.1.1
    have hU := hv.1.2.2.1
    have e : kU (cS σ k) = kU σ := congrArg (fun q => q.2.2.1) (cS_k σ k)
    exact (Rn.all hv k (by omega)).step (by omega) (by rw [e]; omega)
theorem dS_gu (σ : Sg) (u j : Nat) : ∀ n, sGu (dS σ n) u j = if u < n ∧ j = 3 then -1 else if u < n ∧ j = 4 then 0 else sGu σ u j
  | 0 => by rw [if_neg (by omega), if_neg (by omega)]; rfl
  | n + 1 => by
    show up2 (up2 (sGu (dS σ n)) n 3 (-1)) n 4 0 u j = _
    unfold up2
    rw [dS_gu σ u j n]
    by_cases q : u = n
    · subst q
      by_cases q4 : j = 4
      · subst q4; simp
      · by_cases q3 : j = 3
        · subst q3; simp
        · simp [q3, q4]
    · have e : u < n + 1 ↔ u < n := by omega
      simp [q, e]
theorem dS_o (σ : Sg) : ∀ n, sRm (dS σ n) = sRm σ ∧ sGh (dS σ n) = sGh σ ∧ sJn (dS σ n) = sJn σ ∧ (dS σ n).2.2.2.2 = σ.2.2.2.2
  | 0 => ⟨rfl, rfl, rfl, rfl⟩
  | n + 1 => dS_o σ n
theorem Rn.drop {σ1 σ2 : Sg} {k : Nat} (h : Rn σ1 σ2 k) : dS σ1 (kU σ1) = dS σ2 (kU σ1) := by
  obtain ⟨⟨a1, a2, a3, a4⟩, b, c⟩ := h
  obtain ⟨d1, d2, d3, d4⟩ := dS_o σ1 (kU σ1)
  obtain ⟨e1, e2, e3, e4⟩ := dS_o σ2 (kU σ1)
  refine Sg_ext (fun i j => by rw [d1, e1, a1]) (by rw [d2, e2, a2]) (fun u j => ?_) (by rw [d3, e3, a3]) (by rw [d4, e4, a4])
  rw [dS_gu, dS_gu]
  by_cases q : u < kU σ1
  · by_cases q3 : j = 3
    · rw [if_pos ⟨q, q3⟩, if_pos ⟨q, q3⟩]
    · by_cases q4 : j = 4
      · simp [q, q4]
      · simp only [q3, q4, and_false, if_false]
        exact b u j q3 q4
  · rw [if_neg (fun z => q z.1), if_neg (fun z => q z.1), if_neg (fun z => q z.1), if_neg (fun z => q z.1)]
    rcases c u with ⟨c3, c4⟩ | ⟨c0, -⟩
    · by_cases q3 : j = 3
      · subst q3; exact c3
      · by_cases q4 : j = 4
        · subst q4; exact c4
        · exact b u j q3 q4
    · exact absurd c0 q
/-- the two nights are one -/
theorem ng_eq {σ : Sg} (hv : VS σ) : mnS σ = ngS σ := by
  have h := Rn.all hv (kR σ) (Nat.le_refl _)
  have e : kU (cS σ (kR σ)) = kU σ := congrArg (fun q => q.2.2.1) (cS_k σ (kR σ))
  have h9 := h.drop
  rw [e] at h9
  rw [mnS, ngS, h9]
