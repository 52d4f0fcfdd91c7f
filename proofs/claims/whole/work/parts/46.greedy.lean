/-! MOST: WHAT THE AUCTION'S GREEDY WAY KEEPS -/
theorem aq_alR {σ : Sg} {u r : Nat} (hr : r < 10) : ∀ k, k ≤ 10 → (aq (alR σ u k) r ↔ r < k ∧ alB σ u r = true)
  | 0, _ => ⟨fun h => absurd h aq_0, fun h => absurd h.1 (Nat.not_lt_zero _)⟩
  | k + 1, hk => by
    have ih := aq_alR (σ := σ) (u := u) hr k (by omega)
    rw [alR]
    split
    · rename_i h
      rw [aq_or hr (by omega), ih]
      refine ⟨fun h2 => ?_, fun h2 => ?_⟩
      · rcases h2 with h2 | h2
        · exact ⟨by omega, h2.2⟩
        · exact ⟨by omega, h2 ▸ h⟩
      · by_cases e : r = k
        · exact Or.inr e
        · exact Or.inl ⟨by omega, h2.2⟩
    · rename_i h
      rw [ih]
      refine ⟨fun h2 => ⟨by omega, h2.2⟩, fun h2 => ⟨?_, h2.2⟩⟩
      by_cases e : r = k
      · exact absurd (e ▸ h2.2) h
      · omega
theorem aq_alF {σ : Sg} (hR : kR σ ≤ 10) {u r : Nat} (hr : r < 10) : aq (alF σ u) r ↔ u < kU σ ∧ r < kR σ ∧ alB σ u r = true := by
  unfold alF
  by_cases h : u < kU σ
  · rw [if_pos h, aq_alR hr _ hR]
    exact ⟨fun h2 => ⟨h, h2⟩, fun h2 => h2.2⟩
  · rw [if_neg h]
    exact ⟨fun h2 => absurd h2 aq_0, fun h2 => absurd h2.1 h⟩
def pw (σ : Sg) (g : Nat) : Nat := (sGu σ g 4).toNatClampNeg
theorem pw_ok {σ : Sg} (hv : VS σ) {g : Nat} (hg : g < kU σ) : sGu σ g 4 = nI (pw σ g) ∧ pw σ g ≤ 200 := by
  obtain ⟨k, hk, e⟩ : ∃ k, k < 201 ∧ sGu σ g 4 = nI k := by
    rcases hv.2.2.2.1 g hg with ⟨-, e⟩ | ⟨r, -, -, h1, h2⟩
    · exact ⟨0, by omega, e⟩
    · exact ix_nat2 (n := 200) rfl (by decide) ⟨Int32.le_trans (by decide : (0 : Int32) ≤ 1) h1, h2⟩
  have e2 : pw σ g = k := by unfold pw; rw [e]; exact nI_clamp (by omega)
  rw [e2]
  exact ⟨e, by omega⟩
theorem db_iff {σ : Sg} (hv : VS σ) {a b : Nat} (ha : a < kU σ) (hb : b < kU σ) : dearB σ a b = true ↔ pw σ b < pw σ a ∨ (pw σ a = pw σ b ∧ a < b) := by
  obtain ⟨⟨-, -, hU, -⟩, -⟩ := id hv
  obtain ⟨e1, l1⟩ := pw_ok hv ha
  obtain ⟨e2, l2⟩ := pw_ok hv hb
  unfold dearB
  rw [decide_eq_true_iff, e1, e2, nI_ltI (by omega) (by omega), nI_eq (by omega) (by omega), nI_ltI (by omega) (by omega)]
theorem ndA_none {σ : Sg} {fol : Nat → Bool} : ∀ n, ndA σ fol n = none → ∀ g, g < n → ¬ sGu σ g 3 = -1 → fol g = true → False
  | 0, _, g, hg, _, _ => absurd hg (Nat.not_lt_zero _)
  | n + 1, h, g, hg, hb, hf => by
    rw [ndA] at h
    unfold ndS at h
    split at h
    · rename_i h1
      by_cases e : g = n
      · subst e; exact hb h1
      · exact ndA_none n h g (by omega) hb hf
    · split at h
      · split at h
        · cases h
        · split at h
          · cases h
          · rename_i h3 _
            rw [h3] at h
            cases h
      · rename_i h2
        by_cases e : g = n
        · subst e; exact h2 hf
        · exact ndA_none n h g (by omega) hb hf
theorem ndA_some {σ : Sg} (hv : VS σ) {fol : Nat → Bool} : ∀ n, n ≤ kU σ → ∀ j, ndA σ fol n = some j → fol j = true ∧ ¬ sGu σ j 3 = -1 ∧ ∀ g, g < n → ¬ sGu σ g 3 = -1 → fol g = true → g = j ∨ dearB σ j g = true
  | 0, _, j, h => by cases h
  | n + 1, hn, j, h => by
    have ih := ndA_some hv (fol := fol) n (by omega)
    have il := ndA_lt σ fol n
    have i0 := ndA_none (σ := σ) (fol := fol) n
    rw [ndA] at h
    unfold ndS at h
    split at h
    · rename_i h1
      obtain ⟨a1, a2, a3⟩ := ih j h
      refine ⟨a1, a2, fun g hg hb hf => ?_⟩
      by_cases e : g = n
      · subst e; exact absurd h1 hb
      · exact a3 g (by omega) hb hf
    · rename_i h1
      split at h
      · rename_i h2
        split at h
        · rename_i h3
          cases h
          refine ⟨h2, h1, fun g hg hb hf => ?_⟩
          by_cases e : g = n
          · exact Or.inl e
          · exact (i0 h3 g (by omega) hb hf).elim
        · rename_i k h3
          have hk := il k h3
          obtain ⟨a1, a2, a3⟩ := ih k h3
          split at h
          · rename_i h4
            cases h
            refine ⟨h2, h1, fun g hg hb hf => ?_⟩
            by_cases e : g = n
            · exact Or.inl e
            · refine Or.inr ?_
              rcases a3 g (by omega) hb hf with h5 | h5
              · rw [h5]; exact h4
              · rw [db_iff hv (by omega) (by omega)] at h4 h5 ⊢
                omega
          · rename_i h4
            rw [h3] at h
            cases h
            refine ⟨a1, a2, fun g hg hb hf => ?_⟩
            by_cases e : g = n
            · subst e
              refine Or.inr ?_
              rw [db_iff hv (by omega) (by omega)] at h4 ⊢
              omega
            · exact a3 g (by omega) hb hf
      · rename_i h2
        obtain ⟨a1, a2, a3⟩ := ih j h
        refine ⟨a1, a2, fun g hg hb hf => ?_⟩
        by_cases e : g = n
        · subst e; exact absurd hf h2
        · exact a3 g (by omega) hb hf
/-- who is still to come -/
def rem (σ : Sg) (o : Option Nat) (g : Nat) : Prop := ∃ u, o = some u ∧ (g = u ∨ dearB σ u g = true)
theorem rem_next {σ : Sg} (hv : VS σ) {u : Nat} (hu : u < kU σ) {g : Nat} (hg : g < kU σ) (h : rem σ (ndA σ (dearB σ u) (kU σ)) g) : dearB σ u g = true := by
  obtain ⟨u', e, h⟩ := h
  have hu' := ndA_lt σ _ _ _ e
  obtain ⟨a1, -, -⟩ := ndA_some hv (kU σ) (Nat.le_refl _) u' e
  rcases h with h | h
  · rw [h]; exact a1
  · rw [db_iff hv hu (by omega)] at a1
    rw [db_iff hv hu' hg] at h
    rw [db_iff hv hu hg]
    omega
theorem rem_back {σ : Sg} (hv : VS σ) {u g : Nat} (hg : g < kU σ) (hb : ¬ sGu σ g 3 = -1) (h : dearB σ u g = true) : rem σ (ndA σ (dearB σ u) (kU σ)) g := by
  cases e : ndA σ (dearB σ u) (kU σ) with
  | none => exact (ndA_none _ e g hg hb h).elim
  | some u' => exact ⟨u', rfl, (ndA_some hv (kU σ) (Nat.le_refl _) u' e).2.2 g hg hb h⟩
/-- what the auction's greedy way keeps -/
def GI (σ : Sg) (t : Int32 × Option Nat × (Nat → Int32)) (z : Nat → Nat) : Prop :=
  (∀ q, q < 10 → t.2.2 q = -1 ∨ ∃ v, v < 12 ∧ t.2.2 q = nI v ∧ aq (alF σ v) q) ∧ INJ 0 t.2.2 ∧ t.1 = nI (wS (pw σ) t.2.2) ∧
  (∀ q, q < 10 → 0 < z q → ∃ v, v < 12 ∧ t.2.2 q = nI v ∧ z q ≤ pw σ v ∧ ∀ q', q' < 10 → aq (alF σ v) q' → z q ≤ z q') ∧
  (∀ g, g < kU σ → ¬ sGu σ g 3 = -1 → ¬ rem σ t.2.1 g → (∃ q, q < 10 ∧ t.2.2 q = nI g) ∨ ∀ q, q < 10 → aq (alF σ g) q → pw σ g ≤ z q) ∧
  (∀ g q, g < 12 → q < 10 → t.2.2 q = nI g → ¬ rem σ t.2.1 g) ∧
  (∀ u, t.2.1 = some u → ∀ q, q < 10 → 0 < z q → pw σ u ≤ z q)
theorem GI.start {σ : Sg} (hv : VS σ) : GI σ (mgS σ 0) (fun _ => 0) := by
  refine ⟨fun q hq => Or.inl rfl, fun q q' _ _ _ _ h _ => absurd rfl h, ?_, fun q hq h => absurd h (Nat.lt_irrefl _), fun g hg hb hr => ?_, fun g q hg hq h => absurd h.symm (nI_ne1 (by omega)), fun u _ q hq h => absurd h (Nat.lt_irrefl _)⟩
  · show (0 : Int32) = nI (wS (pw σ) (fun _ => -1))
    rfl
  · refine absurd ?_ hr
    show rem σ (ndA σ (fun _ => true) (kU σ)) g
    cases e : ndA σ (fun _ => true) (kU σ) with
    | none => exact (ndA_none _ e g hg hb rfl).elim
    | some u' => exact ⟨u', rfl, (ndA_some hv (kU σ) (Nat.le_refl _) u' e).2.2 g hg hb rfl⟩
theorem GI.next {σ : Sg} (hv : VS σ) {i : Nat} {z : Nat → Nat} (h : GI σ (mgS σ i) z) : ∃ z', GI σ (mgS σ (i + 1)) z' := by
  obtain ⟨⟨hR, -, hU, -⟩, -⟩ := id hv
  cases e : (mgS σ i).2.1 with
  | none =>
    refine ⟨z, ?_⟩
    rw [mgS, e]
    exact h
  | some u =>
    have hu := mg_lt σ i u e
    have hHO := mg_HO hU i
    obtain ⟨gV, gI, gW, gA, gC, gD, gE⟩ := h
    rw [mg_s e]
    rw [e] at gC gD gE
    generalize hho : (mgS σ i).2.2 = ho at *
    generalize (mgS σ i).1 = W at *
    have sp := kF_sp (alF σ) (pw σ) 11 u (0, ho) (by omega) hHO (Nat.lt_of_le_of_lt (cnt_10 _) (by decide))
    generalize kF (alF σ) 11 u (0, ho) = res at sp ⊢
    obtain ⟨b, asked, ho'⟩ := res
    have hzu := gE u rfl
    have hru : rem σ (some u) u := ⟨u, rfl, Or.inl rfl⟩
    have hnu : ∀ q, q < 10 → ¬ ho q = nI u := fun q hq h => gD u q (by omega) hq h hru
    have hru' : ¬ rem σ (ndA σ (dearB σ u) (kU σ)) u := fun h => by
      have := (db_iff hv hu hu).mp (rem_next hv hu hu h)
      omega
    have hsub : ∀ g, g < kU σ → ¬ rem σ (some u) g → ¬ rem σ (ndA σ (dearB σ u) (kU σ)) g := fun g hg h h2 => h ⟨u, rfl, Or.inr (rem_next hv hu hg h2)⟩
    have hcov : ∀ g, g < kU σ → ¬ sGu σ g 3 = -1 → ¬ rem σ (ndA σ (dearB σ u) (kU σ)) g → g = u ∨ ¬ rem σ (some u) g := fun g hg hb h => by
      by_cases e : g = u
      · exact Or.inl e
      · refine Or.inr fun h2 => ?_
        obtain ⟨u2, e2, h2⟩ := h2
        cases e2
        exact h (rem_back hv hg hb (h2.resolve_left e))
    have hpl : ∀ g q, g < 12 → q < 10 → ho q = nI g → g < kU σ ∧ pw σ u ≤ pw σ g := fun g q hg hq h => by
      rcases gV q hq with h2 | ⟨v, hv2, h2, h3⟩
      · exact absurd (h.symm.trans h2) (nI_ne1 (by omega))
      · have : g = v := (nI_eq (by omega) (by omega)).mp (h.symm.trans h2)
        subst this
        have hgU := ((aq_alF hR hq).mp h3).1
        refine ⟨hgU, ?_⟩
        have hn := gD g q hg hq h
        have h4 : ¬ dearB σ u g = true := fun h4 => hn ⟨u, rfl, Or.inr h4⟩
        rw [db_iff hv hu hgU] at h4
        omega
    have hnx : ∀ u', ndA σ (dearB σ u) (kU σ) = some u' → pw σ u' ≤ pw σ u := fun u' e2 => by
      have h1 := (ndA_some hv (kU σ) (Nat.le_refl _) u' e2).1
      rw [db_iff hv hu (ndA_lt σ _ _ _ e2)] at h1
      omega
    cases b
    · obtain ⟨a1, -, a3, a4⟩ := sp.1 rfl
      have a1 : ho' = ho := a1
      subst a1
      have a3 : ∀ q, q < 10 → aq asked q → ∃ x, x < 12 ∧ ho' q = nI x ∧ ∀ q', q' < 10 → aq (alF σ x) q' → aq asked q' := fun q hq h => a3 q hq h aq_0
      have a4 : ∀ q, q < 10 → aq (alF σ u) q → aq asked q := fun q hq h => a4 q (Nat.zero_le _) (by omega) h
      obtain ⟨z', hz'⟩ : ∃ z' : Nat → Nat, ∀ q, z' q = if z q = 0 then (1 - cq asked q) * pw σ u else z q := ⟨_, fun _ => rfl⟩
      have z1 : ∀ q, ¬ z q = 0 → z' q = z q := fun q h => by rw [hz', if_neg h]
      have z2 : ∀ q, z q = 0 → aq asked q → z' q = pw σ u := fun q h h2 => by rw [hz', if_pos h, cq_y h2]; omega
      have z3 : ∀ q, z q = 0 → ¬ aq asked q → z' q = 0 := fun q h h2 => by rw [hz', if_pos h, cq_n h2]; omega
      have z4 : ∀ q, z q ≤ z' q := fun q => by
        by_cases h : z q = 0
        · omega
        · rw [z1 q h]; exact Nat.le_refl _
      have z5 : ∀ q, q < 10 → aq asked q → pw σ u ≤ z' q := fun q hq h => by
        by_cases h2 : z q = 0
        · rw [z2 q h2 h]; exact Nat.le_refl _
        · rw [z1 q h2]; exact hzu q hq (by omega)
      refine ⟨z', gV, gI, gW, fun q hq h => ?_, fun g hg hb hr => ?_, fun g q hg hq h => ?_, fun u' e2 q hq h => ?_⟩
      · by_cases h2 : z q = 0
        · rcases aq_dec asked q with h3 | h3
          · obtain ⟨x, hx, c1, c2⟩ := a3 q hq h3
            exact ⟨x, hx, c1, by rw [z2 q h2 h3]; exact (hpl x q hx hq c1).2, fun q' hq' h4 => by rw [z2 q h2 h3]; exact z5 q' hq' (c2 q' hq' h4)⟩
          · rw [z3 q h2 h3] at h; exact absurd h (Nat.lt_irrefl _)
        · obtain ⟨v, c1, c2, c3, c4⟩ := gA q hq (by omega)
          rw [z1 q h2]
          exact ⟨v, c1, c2, c3, fun q' hq' h4 => Nat.le_trans (c4 q' hq' h4) (z4 q')⟩
      · rcases hcov g hg hb hr with h2 | h2
        · subst h2
          exact Or.inr fun q hq h => z5 q hq (a4 q hq h)
        · rcases gC g hg hb h2 with h3 | h3
          · exact Or.inl h3
          · exact Or.inr fun q hq h => Nat.le_trans (h3 q hq h) (z4 q)
      · exact hsub g (hpl g q hg hq h).1 (gD g q hg hq h)
      · have h1 := hnx u' e2
        by_cases h2 : z q = 0
        · rcases aq_dec asked q with h3 | h3
          · rw [z2 q h2 h3]; exact h1
          · rw [z3 q h2 h3] at h; exact absurd h (Nat.lt_irrefl _)
        · rw [z1 q h2]; exact Nat.le_trans h1 (hzu q hq (by omega))
    · obtain ⟨-, s2, s3, s4, s5, s6⟩ := sp.2 rfl
      have s2 : ∀ q, q < 10 → ¬ ho q = -1 → ∃ q', q' < 10 ∧ ho' q' = ho q := s2
      have s3 : ∀ q, q < 10 → ho' q = ho q ∨ ∃ v, v < 12 ∧ ho' q = nI v ∧ aq (alF σ v) q := s3
      have s4 : wS (pw σ) ho' = wS (pw σ) ho + pw σ u := s4
      obtain ⟨t1, t2⟩ := s5 gI (fun q hq _ => hnu q hq)
      have t1 : INJ 0 ho' := t1
      have t2 : ∀ x : Int32, ¬ x = nI u → (∀ q, q < 10 → ¬ ho q = x) → ∀ q, q < 10 → ¬ ho' q = x := fun x h1 h2 q hq => t2 x h1 (fun q hq _ => h2 q hq) q hq aq_0
      obtain ⟨t3, r1, t4, -, -, -, t5⟩ := s6 (fun q => 0 < z q) (fun q hq h => by
        obtain ⟨v, c1, c2, c3, c4⟩ := gA q hq h
        exact ⟨v, c1, c2, fun q' hq' h4 => Nat.lt_of_lt_of_le h (c4 q' hq' h4)⟩)
      have t3 : ∀ q, q < 10 → 0 < z q → ho' q = ho q := t3
      have t5 : ho' r1 = nI u := t5
      refine ⟨z, fun q hq => ?_, t1, ?_, fun q hq h => ?_, fun g hg hb hr => ?_, fun g q hg hq h => ?_, fun u' e2 q hq h => Nat.le_trans (hnx u' e2) (hzu q hq h)⟩
      · rcases s3 q hq with h | h
        · show ho' q = -1 ∨ ∃ v, v < 12 ∧ ho' q = nI v ∧ aq (alF σ v) q
          rw [h]; exact gV q hq
        · exact Or.inr h
      · show (if true = true then W + sGu σ u 4 else W) = nI (wS (pw σ) ho')
        rw [if_pos rfl, s4, gW, (pw_ok hv hu).1, nI_add]
      · obtain ⟨v, c1, c2, c3⟩ := gA q hq h
        exact ⟨v, c1, (t3 q hq h).trans c2, c3⟩
      · rcases hcov g hg hb hr with h2 | h2
        · subst h2
          exact Or.inl ⟨r1, t4, t5⟩
        · rcases gC g hg hb h2 with ⟨q, hq, h3⟩ | h3
          · obtain ⟨q', hq', h4⟩ := s2 q hq (by rw [h3]; exact nI_ne1 (by omega))
            exact Or.inl ⟨q', hq', h4.trans h3⟩
          · exact Or.inr h3
      · have h : ho' q = nI g := h
        by_cases e3 : g = u
        · subst e3; exact hru'
        · have h2 : ¬ nI g = nI u := fun h2 => e3 ((nI_eq (by omega) (by omega)).mp h2)
          have h3 : ∃ q, q < 10 ∧ ho q = nI g := Classical.byContradiction fun h3 => t2 (nI g) h2 (fun q hq h4 => h3 ⟨q, hq, h4⟩) q hq h
          obtain ⟨q2, hq2, h4⟩ := h3
          exact hsub g (hpl g q2 hg hq2 h4).1 (gD g q2 hg hq2 h4)
theorem GI.all {σ : Sg} (hv : VS σ) : ∀ i, ∃ z, GI σ (mgS σ i) z
  | 0 => ⟨_, GI.start hv⟩
  | i + 1 => by
    obtain ⟨z, h⟩ := GI.all hv i
    exact GI.next hv h
/-- the way comes to its end -/
def rb (σ : Sg) (o : Option Nat) (g : Nat) : Nat := match o with
  | none => 0
  | some u => if g = u ∨ dearB σ u g = true then 1 else 0
theorem mg_cnt {σ : Sg} (hv : VS σ) : ∀ i, (mgS σ i).2.1 = none ∨ sumN (rb σ (mgS σ i).2.1) (kU σ) + i ≤ kU σ
  | 0 => by
    refine Or.inr ?_
    have h1 : sumN (rb σ (mgS σ 0).2.1) (kU σ) ≤ sumN (fun _ => 1) (kU σ) := sumN_le _ fun q _ => by
      unfold rb
      split
      · exact Nat.zero_le _
      · split <;> decide
    have h2 : ∀ n, sumN (fun _ => 1) n = n := fun n => by
      induction n with
      | zero => rfl
      | succ n ih => rw [sumN, ih]
    rw [h2] at h1
    omega
  | i + 1 => by
    cases e : (mgS σ i).2.1 with
    | none => exact Or.inl (by rw [mgS, e]; exact e)
    | some u =>
      have hu := mg_lt σ i u e
      have ih := (mg_cnt hv i).resolve_left (by rw [e]; exact fun h => by cases h)
      rw [e] at ih
      rw [mg_s e]
      cases e2 : ndA σ (dearB σ u) (kU σ) with
      | none => exact Or.inl rfl
      | some u' =>
        refine Or.inr ?_
        have hu' := ndA_lt σ _ _ _ e2
        have h1 := (ndA_some hv (kU σ) (Nat.le_refl _) u' e2).1
        rw [db_iff hv hu hu'] at h1
        have h2 : sumN (rb σ (some u')) (kU σ) < sumN (rb σ (some u)) (kU σ) := sumN_lt (r := u) _ (fun g hg => by
          show (if g = u' ∨ dearB σ u' g = true then 1 else 0) ≤ (if g = u ∨ dearB σ u g = true then 1 else 0)
          split
          · rename_i h3
            have h4 : g = u ∨ dearB σ u g = true := by
              rw [db_iff hv hu' hg] at h3
              rw [db_iff hv hu hg]
              rcases h3 with h3 | h3
              · rw [h3]; omega
              · omega
            rw [if_pos h4]; exact Nat.le_refl _
          · exact Nat.zero_le _) hu (by
          show (if u = u' ∨ dearB σ u' u = true then 1 else 0) < (if u = u ∨ dearB σ u u = true then 1 else 0)
          have h3 : ¬ (u = u' ∨ dearB σ u' u = true) := by
            rw [db_iff hv hu' hu]
            intro h3
            rcases h3 with h3 | h3
            · rw [← h3] at h1; omega
            · omega
          rw [if_neg h3, if_pos (Or.inl rfl)]
          decide)
        show sumN (rb σ (some u')) (kU σ) + (i + 1) ≤ kU σ
        omega
theorem mg_fin {σ : Sg} (hv : VS σ) : (mgS σ (kU σ)).2.1 = none := by
  rcases mg_cnt hv (kU σ) with h | h
  · exact h
  · cases e : (mgS σ (kU σ)).2.1 with
    | none => rfl
    | some u =>
      rw [e] at h
      have hu := mg_lt σ _ u e
      have h2 : sumN (fun _ => 0) (kU σ) < sumN (rb σ (some u)) (kU σ) := sumN_lt (r := u) _ (fun _ _ => Nat.zero_le _) hu (by
        show 0 < (if u = u ∨ dearB σ u u = true then 1 else 0)
        rw [if_pos (Or.inl rfl)]; decide)
      omega
