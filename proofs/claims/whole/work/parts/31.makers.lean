theorem LW.away {E : gE} {g g2 : Nat → Nat} {M M2 : gM} {tl te base n : Nat} (h : LW E g M tl te base n) (e1 : M2 tl = M tl) (e2 : M2 te = M te) (e3 : g2 te = g te) (e4 : ∀ i, i < n → g2 (base + i) = g (base + i)) : LW E g2 M2 tl te base n := by
  obtain ⟨xm, el, a1, a2, a3⟩ := h
  refine ⟨xm, el, e1.trans a1, fun h0 => ⟨(a2 h0).1, e2.trans (a2 h0).2⟩, fun h0 => ?_⟩
  obtain ⟨b1, f, b2, b3⟩ := a3 h0
  exact ⟨by rw [e3]; exact b1, f, e2.trans b2, fun i hi => by rw [e4 i hi]; exact b3 i hi⟩
theorem ghostE_congr {g g2 : Nat → Nat} {σ σ2 : Sg} {i : Nat} (h : ∀ k, k < 4 → sGh σ2 i k = sGh σ i k) (h2 : g2 (300 + i) = g (300 + i)) : ghostE g2 σ2 i = ghostE g σ i := by
  unfold ghostE
  rw [h 0 (by decide), h 1 (by decide), h 2 (by decide), h 3 (by decide), h2]
section
variable {E : gE} {g g2 : Nat → Nat} {M M2 : gM} {σ : Sg}
theorem cw_away (hw : CW E g M σ) (h : ∀ u, (u < 10 ∨ (∃ i, i < kR σ ∧ u = 100 + i) ∨ (∃ i, i < kG σ ∧ (u = 200 + i ∨ u = 300 + i)) ∨ ∃ i, i < kU σ ∧ u = 400 + i) → g2 u = g u ∧ M2 u = M u) : CW E g2 M2 σ := by
  obtain ⟨⟨a1, a2, a3, a4⟩, ⟨⟨xs, b1⟩, b2, b3⟩, c1, c2, c3⟩ := hw
  have h9 : ∀ u, u < 10 → g2 u = g u ∧ M2 u = M u := fun u hu => h u (Or.inl hu)
  have hr : ∀ i, i < kR σ → g2 (100 + i) = g (100 + i) ∧ M2 (100 + i) = M (100 + i) := fun i hi => h _ (Or.inr (Or.inl ⟨i, hi, rfl⟩))
  have hg : ∀ i, i < kG σ → g2 (200 + i) = g (200 + i) ∧ M2 (200 + i) = M (200 + i) := fun i hi => h _ (Or.inr (Or.inr (Or.inl ⟨i, hi, Or.inl rfl⟩)))
  have hp : ∀ i, i < kG σ → g2 (300 + i) = g (300 + i) ∧ M2 (300 + i) = M (300 + i) := fun i hi => h _ (Or.inr (Or.inr (Or.inl ⟨i, hi, Or.inr rfl⟩)))
  have hu : ∀ i, i < kU σ → g2 (400 + i) = g (400 + i) ∧ M2 (400 + i) = M (400 + i) := fun i hi => h _ (Or.inr (Or.inr (Or.inr ⟨i, hi, rfl⟩)))
  refine ⟨⟨?_, a2.away (h9 1 (by decide)).2 (h9 7 (by decide)).2 (h9 7 (by decide)).1 (fun i hi => (hr i hi).1), a3.away (h9 2 (by decide)).2 (h9 8 (by decide)).2 (h9 8 (by decide)).1 (fun i hi => (hg i hi).1), a4.away (h9 3 (by decide)).2 (h9 9 (by decide)).2 (h9 9 (by decide)).1 (fun i hi => (hu i hi).1)⟩, ⟨⟨xs, ?_⟩, ?_, ?_⟩, fun i hi => ?_, fun i hi => ?_, fun i hi => ?_⟩
  · rw [(h9 0 (by decide)).2, (h9 1 (by decide)).1, (h9 2 (by decide)).1, (h9 3 (by decide)).1, (h9 4 (by decide)).1]; exact a1
  · rw [(h9 4 (by decide)).2, (h9 5 (by decide)).1, (h9 6 (by decide)).1]; exact b1
  · rw [(h9 5 (by decide)).2]; exact b2
  · rw [(h9 6 (by decide)).2]; exact b3
  · rw [(hr i hi).2]; exact c1 i hi
  · rw [(hg i hi).2, c2 i hi, ghostE_congr (g2 := g2) (fun _ _ => rfl) (hp i hi).1]
  · rw [(hu i hi).2]; exact c3 i hi
theorem cx_fu (hx : CX E g M σ) (hX : VX σ) (hb : kR σ < 10 ∧ kG σ ≤ 5 ∧ kU σ ≤ 12) (xb xc xq : Int32) (hg : ∀ u, u ≠ 100 + kR σ → u ≠ 7 → g2 u = g u) (hM : ∀ u, u ≠ 100 + kR σ → u ≠ 1 → u ≠ 7 → M2 u = M u) (ht : M2 (100 + kR σ) = some (.inr (3, [.int xb, .int xq, .int xc, .int 0, .int 0, .int 0]))) (hL : LW E g2 M2 1 7 100 (kR σ + 1)) : CX E g2 M2 (fuS σ xb xc xq) := by
  obtain ⟨⟨⟨a1, a2, a3, a4⟩, ⟨⟨xs, b1⟩, b2, b3⟩, c1, c2, c3⟩, hp, hd⟩ := hx
  refine ⟨⟨⟨?_, hL, a3.away (hM 2 (by omega) (by omega) (by omega)) (hM 8 (by omega) (by omega) (by omega)) (hg 8 (by omega) (by omega)) (fun i hi => hg _ (by omega) (by omega)), a4.away (hM 3 (by omega) (by omega) (by omega)) (hM 9 (by omega) (by omega) (by omega)) (hg 9 (by omega) (by omega)) (fun i hi => hg _ (by omega) (by omega))⟩, ⟨⟨xs, ?_⟩, ?_, ?_⟩, fun i hi => ?_, fun i (hi : i < kG σ) => ?_, fun i (hi : i < kU σ) => ?_⟩, fun i (hi : i < kG σ) => ?_, fun t e h9 => ?_⟩
  · rw [hM 0 (by omega) (by omega) (by omega), hg 1 (by omega) (by omega), hg 2 (by omega) (by omega), hg 3 (by omega) (by omega), hg 4 (by omega) (by omega)]; exact a1
  · rw [hM 4 (by omega) (by omega) (by omega), hg 5 (by omega) (by omega), hg 6 (by omega) (by omega)]; exact b1
  · rw [hM 5 (by omega) (by omega) (by omega)]; exact b2
  · rw [hM 6 (by omega) (by omega) (by omega)]; exact b3
  · have hi : i < kR σ + 1 := hi
    by_cases q : i = kR σ
    · subst q
      rw [ht]
      unfold roomE
      rw [show sRm (fuS σ xb xc xq) = nw (sRm σ) (kR σ) (rowR xb xc xq) from rfl, nw_s, nw_s, nw_s, nw_s, nw_s, show sJn (fuS σ xb xc xq) = sJn σ from rfl, hX (kR σ) (Nat.le_refl _)]
      rfl
    · rw [hM _ (by omega) (by omega) (by omega), c1 i (by omega), roomE_congr (σ := σ) (σ2 := fuS σ xb xc xq) (fun k hk => nw_n q) rfl]
  · rw [hM _ (by omega) (by omega) (by omega), c2 i hi, ghostE_congr (g2 := g2) (σ := σ) (σ2 := fuS σ xb xc xq) (fun _ _ => rfl) (hg _ (by omega) (by omega))]
  · rw [hM _ (by omega) (by omega) (by omega)]; exact c3 i hi
  · obtain ⟨f, e1, e2⟩ := hp i hi
    exact ⟨f, by rw [hM _ (by omega) (by omega) (by omega)]; exact e1, fun h hh => (e2 h hh).trans (plc_congr (σ := σ) (σ2 := fuS σ xb xc xq) rfl rfl i h).symm⟩
  · by_cases q : t = 100 + kR σ
    · exact Or.inr (Or.inl ⟨kR σ, Nat.lt_succ_self _, q⟩)
    · by_cases q1 : t < 10
      · exact Or.inl q1
      · rw [hM t q (by omega) (by omega)] at h9
        rcases hd t e h9 with h | ⟨i, h1, h2⟩ | h | h
        · exact Or.inl h
        · exact Or.inr (Or.inl ⟨i, Nat.lt_succ_of_lt h1, h2⟩)
        · exact Or.inr (Or.inr (Or.inl h))
        · exact Or.inr (Or.inr (Or.inr h))
theorem cx_co (hx : CX E g M σ) (hb : kR σ ≤ 10 ∧ kG σ ≤ 5 ∧ kU σ < 12) (xc xn xv : Int32) (hg : ∀ u, u ≠ 400 + kU σ → u ≠ 9 → g2 u = g u) (hM : ∀ u, u ≠ 400 + kU σ → u ≠ 3 → u ≠ 9 → M2 u = M u) (ht : M2 (400 + kU σ) = some (.inr (2, [.int xn, .int xc, .int xv, .int (-1), .int 0, .int 0, .int 0]))) (hL : LW E g2 M2 3 9 400 (kU σ + 1)) : CX E g2 M2 (coS σ xc xn xv) := by
  obtain ⟨⟨⟨a1, a2, a3, a4⟩, ⟨⟨xs, b1⟩, b2, b3⟩, c1, c2, c3⟩, hp, hd⟩ := hx
  refine ⟨⟨⟨?_, a2.away (hM 1 (by omega) (by omega) (by omega)) (hM 7 (by omega) (by omega) (by omega)) (hg 7 (by omega) (by omega)) (fun i hi => hg _ (by omega) (by omega)), a3.away (hM 2 (by omega) (by omega) (by omega)) (hM 8 (by omega) (by omega) (by omega)) (hg 8 (by omega) (by omega)) (fun i hi => hg _ (by omega) (by omega)), hL⟩, ⟨⟨xs, ?_⟩, ?_, ?_⟩, fun i (hi : i < kR σ) => ?_, fun i (hi : i < kG σ) => ?_, fun i hi => ?_⟩, fun i (hi : i < kG σ) => ?_, fun t e h9 => ?_⟩
  · rw [hM 0 (by omega) (by omega) (by omega), hg 1 (by omega) (by omega), hg 2 (by omega) (by omega), hg 3 (by omega) (by omega), hg 4 (by omega) (by omega)]; exact a1
  · rw [hM 4 (by omega) (by omega) (by omega), hg 5 (by omega) (by omega), hg 6 (by omega) (by omega)]; exact b1
  · rw [hM 5 (by omega) (by omega) (by omega)]; exact b2
  · rw [hM 6 (by omega) (by omega) (by omega)]; exact b3
  · rw [hM _ (by omega) (by omega) (by omega)]; exact c1 i hi
  · rw [hM _ (by omega) (by omega) (by omega), c2 i hi, ghostE_congr (g2 := g2) (σ := σ) (σ2 := coS σ xc xn xv) (fun _ _ => rfl) (hg _ (by omega) (by omega))]
  · have hi : i < kU σ + 1 := hi
    by_cases q : i = kU σ
    · subst q
      rw [ht]
      unfold guestE
      rw [show sGu (coS σ xc xn xv) = nw (sGu σ) (kU σ) (rowU xc xn xv) from rfl, nw_s, nw_s, nw_s, nw_s, nw_s, nw_s, nw_s]
      rfl
    · rw [hM _ (by omega) (by omega) (by omega), c3 i (by omega), guestE_congr (σ := σ) (σ2 := coS σ xc xn xv) (fun k hk => nw_n q)]
  · obtain ⟨f, e1, e2⟩ := hp i hi
    exact ⟨f, by rw [hM _ (by omega) (by omega) (by omega)]; exact e1, fun h hh => (e2 h hh).trans (plc_congr (σ := σ) (σ2 := coS σ xc xn xv) rfl rfl i h).symm⟩
  · by_cases q : t = 400 + kU σ
    · exact Or.inr (Or.inr (Or.inr ⟨kU σ, Nat.lt_succ_self _, q⟩))
    · by_cases q1 : t < 10
      · exact Or.inl q1
      · rw [hM t q (by omega) (by omega)] at h9
        rcases hd t e h9 with h | h | h | ⟨i, h1, h2⟩
        · exact Or.inl h
        · exact Or.inr (Or.inl h)
        · exact Or.inr (Or.inr (Or.inl h))
        · exact Or.inr (Or.inr (Or.inr ⟨i, Nat.lt_succ_of_lt h1, h2⟩))
theorem plN_ha {k : Nat} {xf xw xb : Int32} {i : Nat} (hi : i ≠ kG σ) : ∀ n, plN (haS σ (nI k) xf xw xb) i n = plN σ i n
  | 0 => by rw [plN, plN, show sGh (haS σ (nI k) xf xw xb) = nw (sGh σ) (kG σ) (rowG (nI k) xf xw xb) from rfl, nw_n hi]
  | n + 1 => by rw [plN, plN, plN_ha hi n]; rfl
theorem plc_ha {k : Nat} {xf xw xb : Int32} {i : Nat} (hi : i ≠ kG σ) (h : Nat) : plc (haS σ (nI k) xf xw xb) i h = plc σ i h := by
  rw [plc, plc, plN_ha hi, show sGh (haS σ (nI k) xf xw xb) = nw (sGh σ) (kG σ) (rowG (nI k) xf xw xb) from rfl, nw_n hi, nw_n hi]
theorem plR_ha {k : Nat} {xf xw xb : Int32} {r : Nat} : ∀ n, plR (haS σ (nI k) xf xw xb) r n = plR σ r n
  | 0 => rfl
  | n + 1 => by rw [plR, plR, plR_ha n]; rfl
theorem cx_ha (hx : CX E g M σ) (hb : kR σ ≤ 10 ∧ kG σ < 5 ∧ kU σ ≤ 12) (k w : Nat) (hk : k < kR σ) (hw9 : w < 12) (xf xb : Int32) {f : Nat → Int32} (hf : ∀ h, h < 12 → f h = plV σ k w xb h) (hg : ∀ u, u ≠ 200 + kG σ → u ≠ 300 + kG σ → u ≠ 8 → g2 u = g u) (hM : ∀ u, u ≠ 200 + kG σ → u ≠ 300 + kG σ → u ≠ 2 → u ≠ 8 → M2 u = M u) (ht : M2 (200 + kG σ) = some (.inr (1, [.int (nI k), .int xf, .int (nI w), .int xb, .ref (g2 (300 + kG σ))]))) (ht2 : M2 (300 + kG σ) = some (.inl (E.2.1, 12, .inl f))) (hL : LW E g2 M2 2 8 200 (kG σ + 1)) : CX E g2 M2 (haS σ (nI k) xf (nI w) xb) := by
  obtain ⟨⟨⟨a1, a2, a3, a4⟩, ⟨⟨xs, b1⟩, b2, b3⟩, c1, c2, c3⟩, hp, hd⟩ := hx
  refine ⟨⟨⟨?_, a2.away (hM 1 (by omega) (by omega) (by omega) (by omega)) (hM 7 (by omega) (by omega) (by omega) (by omega)) (hg 7 (by omega) (by omega) (by omega)) (fun i hi => hg _ (by omega) (by omega) (by omega)), hL, a4.away (hM 3 (by omega) (by omega) (by omega) (by omega)) (hM 9 (by omega) (by omega) (by omega) (by omega)) (hg 9 (by omega) (by omega) (by omega)) (fun i hi => hg _ (by omega) (by omega) (by omega))⟩, ⟨⟨xs, ?_⟩, ?_, ?_⟩, fun i (hi : i < kR σ) => ?_, fun i hi => ?_, fun i (hi : i < kU σ) => ?_⟩, fun i hi => ?_, fun t e h9 => ?_⟩
  · rw [hM 0 (by omega) (by omega) (by omega) (by omega), hg 1 (by omega) (by omega) (by omega), hg 2 (by omega) (by omega) (by omega), hg 3 (by omega) (by omega) (by omega), hg 4 (by omega) (by omega) (by omega)]; exact a1
  · rw [hM 4 (by omega) (by omega) (by omega) (by omega), hg 5 (by omega) (by omega) (by omega), hg 6 (by omega) (by omega) (by omega)]; exact b1
  · rw [hM 5 (by omega) (by omega) (by omega) (by omega)]; exact b2
  · rw [hM 6 (by omega) (by omega) (by omega) (by omega)]; exact b3
  · rw [hM _ (by omega) (by omega) (by omega) (by omega)]; exact c1 i hi
  · have hi : i < kG σ + 1 := hi
    by_cases q : i = kG σ
    · subst q
      rw [ht]
      unfold ghostE
      rw [show sGh (haS σ (nI k) xf (nI w) xb) = nw (sGh σ) (kG σ) (rowG (nI k) xf (nI w) xb) from rfl, nw_s, nw_s, nw_s, nw_s]
      rfl
    · rw [hM _ (by omega) (by omega) (by omega) (by omega), c2 i (by omega), ghostE_congr (g2 := g2) (σ := σ) (σ2 := haS σ (nI k) xf (nI w) xb) (fun _ _ => nw_n q) (hg _ (by omega) (by omega) (by omega))]
  · rw [hM _ (by omega) (by omega) (by omega) (by omega)]; exact c3 i hi
  · have hi : i < kG σ + 1 := hi
    by_cases q : i = kG σ
    · subst q
      refine ⟨f, ht2, fun h hh => ?_⟩
      rw [hf h hh, plV_c (σ := haS σ (nI k) xf (nI w) xb) (r := k) (w := w) (by omega) (by omega) (show nw (sGh σ) (kG σ) (rowG (nI k) xf (nI w) xb) (kG σ) 0 = nI k from nw_s) (show nw (sGh σ) (kG σ) (rowG (nI k) xf (nI w) xb) (kG σ) 2 = nI w from nw_s), show sGh (haS σ (nI k) xf (nI w) xb) (kG σ) 3 = xb from nw_s, plV, plV, plR_ha]
    · obtain ⟨f9, e1, e2⟩ := hp i (by omega)
      exact ⟨f9, by rw [hM _ (by omega) (by omega) (by omega) (by omega)]; exact e1, fun h hh => (e2 h hh).trans (plc_ha q h).symm⟩
  · by_cases q : t = 200 + kG σ
    · exact Or.inr (Or.inr (Or.inl ⟨kG σ, Nat.lt_succ_self _, Or.inl q⟩))
    · by_cases q3 : t = 300 + kG σ
      · exact Or.inr (Or.inr (Or.inl ⟨kG σ, Nat.lt_succ_self _, Or.inr q3⟩))
      · by_cases q1 : t < 10
        · exact Or.inl q1
        · rw [hM t q q3 (by omega) (by omega)] at h9
          rcases hd t e h9 with h | h | ⟨i, h1, h2⟩ | h
          · exact Or.inl h
          · exact Or.inr (Or.inl h)
          · exact Or.inr (Or.inr (Or.inl ⟨i, Nat.lt_succ_of_lt h1, h2⟩))
          · exact Or.inr (Or.inr (Or.inr h))
theorem cd_none {t : Nat} (hd : CD M σ) (h : ¬ (t < 10 ∨ (∃ i, i < kR σ ∧ t = 100 + i) ∨ (∃ i, i < kG σ ∧ (t = 200 + i ∨ t = 300 + i)) ∨ ∃ i, i < kU σ ∧ t = 400 + i)) : M t = none := by
  cases e : M t with
  | none => rfl
  | some x => exact absurd (hd t x e) h
theorem cd_none2 {t : Nat} (hd : CD M σ) (h0 : 10 ≤ t) (h1 : ∀ i, i < kR σ → t ≠ 100 + i) (h2 : ∀ i, i < kG σ → t ≠ 200 + i ∧ t ≠ 300 + i) (h3 : ∀ i, i < kU σ → t ≠ 400 + i) : M t = none :=
  cd_none hd (fun h => by
    rcases h with h | ⟨i, a, b⟩ | ⟨i, a, b⟩ | ⟨i, a, b⟩
    · omega
    · exact h1 i a b
    · exact b.elim (h2 i a).1 (h2 i a).2
    · exact h3 i a b)
theorem wk_1 {x y : Int32} (h : 0 ≤ x ∧ x ≤ 11) : x + 1 ≤ y ↔ x < y := by
  obtain ⟨n, hn, rfl⟩ := int_nat (N := 11) (by decide) h.1 h.2
  rw [nI_1, Int32.le_iff_toInt_le, Int32.lt_iff_toInt_lt, nI_toInt (by omega), nI_toInt (by omega)]
  omega
end
theorem in_X4_furnish_X2 : ∀ w ∈ u_ws RX2 TX2 6, w ∈ wsX4_furnish := by decide +kernel
theorem in_X4_furnish_X4 : ∀ w ∈ u_ws RX4 TX4 8, w ∈ wsX4_furnish := by decide +kernel
set_option maxHeartbeats 4000000 in
set_option maxRecDepth 100000 in
theorem c_furnishOk (l : Launch) (E : gE) (A : Nat → Prop) (g : Nat → Nat) (M : gM) (σ : Sg) (hv : VS σ) (hw : CW E g M σ) (hp : PW E M σ) (hd : CD M σ) (hX : VX σ) (xb xc xq : Int32) (hok : ((1 ≤ xb ∧ xb ≤ 6) ∧ (0 ≤ xc ∧ xc ≤ 9) ∧ (0 ≤ xq ∧ xq ≤ 100))) (hn : kR σ < 10) : Met l yX4_furnish wsX4_furnish ({ frames := 8, cells := 2, slots := 21, locals := 241 } : Room) (Pz E A [.ref (g 0), .int xb, .int xc, .int xq] (fun H => mP E A g M H ∧ ∀ q : Nat, H.size ≤ q → A q)) (QW (some (.int (nI (kR σ)))) (fun H => ∃ (g' : Nat → Nat) (M' : gM), g' 0 = g 0 ∧ mP E A g' M' H ∧ CX E g' M' (fuS σ xb xc xq)) A) 2 21 A := by
  refine z_entry (by decide) rfl (Nat.le_of_ble_eq_true rfl) ?_
  intro p e s m args below meth c hx hb hr hml hts hown hlocks hin hP hK hZ ls hl
  have hl : lv_has ls 4 [(0, .ref (g 0)), (1, .int xb), (2, .int xc), (3, .int xq)] := hl
  have hown : s.vm.findClass RX4 = some m.cls := hown
  have hS : va_S A s.heap s.heap [] := va_S.rf
  skip
  obtain ⟨hM, hA⟩ := hP
  obtain ⟨⟨hR9, hG9, hU9, hD9⟩, -⟩ := id hv
  obtain ⟨mc1, el1, h1, -⟩ := CW.LR hw
  obtain ⟨mc2, el2, h2, -⟩ := CW.LG hw
  obtain ⟨mc3, el3, h3, -⟩ := CW.LU hw
  refine lv_iload_n hx hb dX4_furnish_0 rfl (lv_at hl 1 rfl) ?_
  refine lv_iconst (v := 1) hx hb dX4_furnish_1 (by decide) ?_
  refine lv_bipush (v := 6) hx hb dX4_furnish_2 (by decide) ?_
  refine m_cS 3 [.int xb, .int 1, .int 6] [] hx hb hml hown hts hK (c_withinY l E A g M xb 1 6 (hok.1)) gX4_furnish_X4_within rfl rfl rfl (by decide +kernel) rfl ⟨Nat.le_of_ble_eq_true rfl, Nat.le_of_ble_eq_true rfl⟩ trivial hl.1 (Nat.le_of_ble_eq_true rfl) ⟨Nat.le_of_ble_eq_true rfl, Nat.le_of_ble_eq_true rfl⟩ rfl dX4_furnish_4 ?_
  refine lv_if_eq (tgt := 30) hx hb dX4_furnish_7 (by decide) (fun c9 => absurd c9 (by decide)) (fun c9 => ?_)
  refine lv_iload_n hx hb dX4_furnish_10 rfl (lv_at hl 2 rfl) ?_
  refine lv_iconst (v := 0) hx hb dX4_furnish_11 (by decide) ?_
  refine lv_bipush (v := 9) hx hb dX4_furnish_12 (by decide) ?_
  refine m_cS 3 [.int xc, .int 0, .int 9] [] hx hb hml hown hts hK (c_withinY l E A g M xc 0 9 (hok.2.1)) gX4_furnish_X4_within rfl rfl rfl (by decide +kernel) rfl ⟨Nat.le_of_ble_eq_true rfl, Nat.le_of_ble_eq_true rfl⟩ trivial hl.1 (Nat.le_of_ble_eq_true rfl) ⟨Nat.le_of_ble_eq_true rfl, Nat.le_of_ble_eq_true rfl⟩ rfl dX4_furnish_14 ?_
  refine lv_if_eq (tgt := 30) hx hb dX4_furnish_17 (by decide) (fun c9 => absurd c9 (by decide)) (fun c9 => ?_)
  refine lv_iload_n hx hb dX4_furnish_20 rfl (lv_at hl 3 rfl) ?_
  refine lv_iconst (v := 0) hx hb dX4_furnish_21 (by decide) ?_
  refine lv_bipush (v := 100) hx hb dX4_furnish_22 (by decide) ?_
  refine m_cS 3 [.int xq, .int 0, .int 100] [] hx hb hml hown hts hK (c_withinY l E A g M xq 0 100 (hok.2.2)) gX4_furnish_X4_within rfl rfl rfl (by decide +kernel) rfl ⟨Nat.le_of_ble_eq_true rfl, Nat.le_of_ble_eq_true rfl⟩ trivial hl.1 (Nat.le_of_ble_eq_true rfl) ⟨Nat.le_of_ble_eq_true rfl, Nat.le_of_ble_eq_true rfl⟩ rfl dX4_furnish_24 ?_
  refine lv_if_ne (tgt := 40) hx hb dX4_furnish_27 (by decide) (fun c9 => ?_) (fun c9 => absurd c9 (by decide))
  refine lv_aload_n hx hb dX4_furnish_40 rfl (lv_at hl 0 rfl) ?_
  refine m_get hx hb hts in_X4_furnish_X4 hown hK hM (CW.x hw) rfl 0 (by decide) (by decide +kernel) rfl dX4_furnish_41 ?_
  refine m_cV 0 [] [] hx hb hml hown hts hK (c_size l E A g M (CW.LR hw)) gX4_furnish_Jx4a65c_size_8abf5 rfl rfl rfl (by decide +kernel) rfl ⟨Nat.le_of_ble_eq_true rfl, Nat.le_of_ble_eq_true rfl⟩ hM h1 rfl rfl hM hl.1 (Nat.le_of_ble_eq_true rfl) ⟨Nat.le_of_ble_eq_true rfl, Nat.le_of_ble_eq_true rfl⟩ rfl dX4_furnish_44 ?_
  refine lv_bipush (v := 10) hx hb dX4_furnish_47 (by decide) ?_
  refine lv_icmp_lt (tgt := 62) hx hb dX4_furnish_49 (by decide) (fun c49 => ?_) (fun c9 => absurd (nI_lt (b := 10) (by omega) (by decide)) c9)
  refine lv_aload_n hx hb dX4_furnish_62 rfl (lv_at hl 0 rfl) ?_
  refine m_get hx hb hts in_X4_furnish_X4 hown hK hM (CW.x hw) rfl 0 (by decide) (by decide +kernel) rfl dX4_furnish_63 ?_
  have hn9 : M (100 + kR σ) = none := cd_none2 hd (by omega) (fun i hi => by omega) (fun i hi => by omega) (fun i hi => by omega)
  obtain ⟨q9, hq9⟩ : ∃ q, q = s.heap.size := ⟨_, rfl⟩
  refine m_newZ (ci := 3) hx hb hts in_X4_furnish_X2 tyX2 tyX2_ok hown (by decide +kernel) (by decide +kernel) (by decide +kernel) hK hM hS hA (100 + kR σ) hn9 rfl (fs := [.int 0, .int 0, .int 0, .int 0, .int 0, .int 0]) (fun j hj => by rcases (show j = 0 ∨ j = 1 ∨ j = 2 ∨ j = 3 ∨ j = 4 ∨ j = 5 by omega) with rfl | rfl | rfl | rfl | rfl | rfl <;> rfl) (Nat.le_of_ble_eq_true rfl) (Nat.le_of_ble_eq_true rfl) dX4_furnish_66 (fun H hM hz ho hS => ?_)
  have hA := fun (q : Nat) (h : H.size ≤ q) => hA q (by omega)
  rw [← hq9] at hM ⊢
  obtain ⟨g, M, hgu, hgt, hMu, hMt, hM⟩ : ∃ (g2 : Nat → Nat) (M2 : gM), (∀ u, u ≠ (100 + kR σ) → g2 u = g u) ∧ g2 (100 + kR σ) = q9 ∧ (∀ u, u ≠ (100 + kR σ) → M2 u = M u) ∧ M2 (100 + kR σ) = some (.inr (3, [.int 0, .int 0, .int 0, .int 0, .int 0, .int 0])) ∧ mP E A g2 M2 H := ⟨_, _, fun u hu => gu1_n hu, gu1_s, fun u hu => mu_n hu, mu_s, hM⟩
  have hl : lv_has ls 4 [(0, .ref (g 0)), (1, .int xb), (2, .int xc), (3, .int xq)] := by rw [hgu 0 (by omega)]; exact hl
  refine W.eq (g2 := F0 m 69 ls [.ref (g (100 + kR σ)), .ref (g 1)]) (by rw [hgt, hgu 1 (by omega)]) ?_
  refine lv_dup hx hb dX4_furnish_69 rfl ?_
  refine lv_iload_n hx hb dX4_furnish_70 rfl (lv_at hl 1 rfl) ?_
  refine lv_iload_n hx hb dX4_furnish_71 rfl (lv_at hl 2 rfl) ?_
  refine lv_iload_n hx hb dX4_furnish_72 rfl (lv_at hl 3 rfl) ?_
  refine m_wI 3 [.int xb, .int xc, .int xq] [.ref (g (100 + kR σ)), .ref (g 1)] hx hb hml hown hts hK (c_roomInit l E A g M (100 + kR σ) xb xc xq hMt) gX4_furnish_X2_init rfl rfl rfl (by decide +kernel) (by decide +kernel) (by decide +kernel) rfl (by decide +kernel) rfl ⟨Nat.le_of_ble_eq_true rfl, Nat.le_of_ble_eq_true rfl⟩ hM hl.1 (Nat.le_of_ble_eq_true rfl) ⟨Nat.le_of_ble_eq_true rfl, Nat.le_of_ble_eq_true rfl⟩ rfl dX4_furnish_73 hS (fun _ _ h => h) (fun _ h => h) (fun H locs hQ hz hk hS => ?_)
  refine W.eq (g2 := F0 m 76 ls [.ref (g (100 + kR σ)), .ref (g 1)]) rfl ?_
  obtain ⟨M, hMv, hMt, hM⟩ : ∃ M2 : gM, (∀ u, u ≠ (100 + kR σ) → M2 u = M u) ∧ M2 (100 + kR σ) = some (.inr (3, [.int xb, .int xq, .int xc, .int 0, .int 0, .int 0])) ∧ mP E A g M2 H := ⟨_, fun u hu => mu_n hu, mu_s, hQ⟩
  have hMu := fun u hu => (hMv u hu).trans (hMu u hu)
  have hA := fun (q : Nat) (h : H.size ≤ q) => hA q (by omega)
  have hn99 : M 99 = none := (hMu 99 (by omega)).trans (cd_none2 hd (by omega) (fun i hi => by omega) (fun i hi => by omega) (fun i hi => by omega))
  have hL9 : LW E g M 1 7 100 (kR σ) := (CW.LR hw).away (hMu 1 (by omega)) (hMu 7 (by omega)) (hgu 7 (by omega)) (fun i hi => hgu _ (by omega))
  have hob9 : ∀ i, i ≤ kR σ → ∃ vs : List Value, M (100 + i) = some (.inr (3, vs)) := fun i hi => by rcases Nat.lt_or_eq_of_le hi with q | q; exact ⟨_, (hMu _ (by omega)).trans (CW.room hw q)⟩; (subst q; exact ⟨_, hMt⟩)
  refine m_zV 1 [.ref (g (100 + kR σ))] [] hx hb hml hown hts hK (c_add l E A g M 1 7 99 100 (kR σ) 3 _ (by decide) hn99 hL9 (by omega) rfl (by simp) hob9 (fun i hi => ⟨by omega, by omega⟩)) gX4_furnish_Jx4a65c_add_9ea2d rfl rfl rfl (by decide +kernel) rfl ⟨Nat.le_of_ble_eq_true rfl, Nat.le_of_ble_eq_true rfl⟩ hM ((hMu 1 (by omega)).trans h1) rfl rfl ⟨hM, hA⟩ hl.1 (Nat.le_of_ble_eq_true rfl) ⟨Nat.le_of_ble_eq_true rfl, Nat.le_of_ble_eq_true rfl⟩ rfl dX4_furnish_76 hZ (fun _ h => h) hS (fun _ _ h => h) (fun _ h => h) (fun H locs hQ hz hk hS => ?_)
  refine W.eq (g2 := F0 m 79 ls [.int (bI true)]) rfl ?_
  obtain ⟨g, M, hg8, hM8, hM, hL8⟩ := hQ
  have hA := fun (q : Nat) (h : H.size ≤ q) => hA q (by omega)
  have hX9 : CX E g M (fuS σ xb xc xq) := cx_fu ⟨hw, hp, hd⟩ hX ⟨hn, hG9, hU9⟩ xb xc xq (fun u h1 h2 => (hg8 u h2).trans (hgu u h1)) (fun u h1 h2 h3 => (hM8 u h2 h3).trans (hMu u h1)) ((hM8 _ (by omega) (by omega)).trans hMt) hL8
  have hg0 := (hg8 0 (by omega)).trans (hgu 0 (by omega))
  obtain ⟨hw, hp, hd⟩ := hX9
  obtain ⟨mc1, el1, h1, -⟩ := CW.LR hw
  obtain ⟨mc2, el2, h2, -⟩ := CW.LG hw
  obtain ⟨mc3, el3, h3, -⟩ := CW.LU hw
  have hl : lv_has ls 4 [(0, .ref (g 0)), (1, .int xb), (2, .int xc), (3, .int xq)] := by have h9 := lv_sub hl [0, 1, 2, 3] rfl; rw [hg8 0 (by omega)]; exact h9
  refine lv_pop hx hb dX4_furnish_79 rfl ?_
  refine lv_aload_n hx hb dX4_furnish_80 rfl (lv_at hl 0 rfl) ?_
  refine m_get hx hb hts in_X4_furnish_X4 hown hK hM (CW.x hw) rfl 0 (by decide) (by decide +kernel) rfl dX4_furnish_81 ?_
  refine m_cV 0 [] [] hx hb hml hown hts hK (c_size l E A g M (CW.LR hw)) gX4_furnish_Jx4a65c_size_8abf5 rfl rfl rfl (by decide +kernel) rfl ⟨Nat.le_of_ble_eq_true rfl, Nat.le_of_ble_eq_true rfl⟩ hM h1 rfl rfl hM hl.1 (Nat.le_of_ble_eq_true rfl) ⟨Nat.le_of_ble_eq_true rfl, Nat.le_of_ble_eq_true rfl⟩ rfl dX4_furnish_84 ?_
  refine lv_iconst (v := 1) hx hb dX4_furnish_87 (by decide) ?_
  refine lv_isub hx hb dX4_furnish_88 ?_
  refine W.eq (g2 := F0 m 89 ls [.int ((nI (kR σ + 1)) - 1)]) rfl ?_
  rw [show ((nI (kR σ + 1)) - 1 : Int32) = nI (kR σ) from nI_p1 _]
  exact w_i hx hb hr hlocks dX4_furnish_89 hS (Nat.le_of_ble_eq_true rfl) (Nat.le_of_ble_eq_true rfl) (by first | rfl | assumption) (⟨g, M, hg0, hM, hw, hp, hd⟩)
theorem in_X4_come_X1 : ∀ w ∈ u_ws RX1 TX1 7, w ∈ wsX4_come := by decide +kernel
theorem in_X4_come_X4 : ∀ w ∈ u_ws RX4 TX4 8, w ∈ wsX4_come := by decide +kernel
set_option maxHeartbeats 4000000 in
set_option maxRecDepth 100000 in
theorem c_comeOk (l : Launch) (E : gE) (A : Nat → Prop) (g : Nat → Nat) (M : gM) (σ : Sg) (hv : VS σ) (hw : CW E g M σ) (hp : PW E M σ) (hd : CD M σ) (hX : VX σ) (xc xn xv : Int32) (hok : ((0 ≤ xc ∧ xc ≤ 1000) ∧ (1 ≤ xn ∧ xn ≤ 6) ∧ ((-9) ≤ xv ∧ xv ≤ 90))) (hn : kU σ < 12) : Met l yX4_come wsX4_come ({ frames := 8, cells := 2, slots := 22, locals := 241 } : Room) (Pz E A [.ref (g 0), .int xc, .int xn, .int xv] (fun H => mP E A g M H ∧ ∀ q : Nat, H.size ≤ q → A q)) (QW (some (.int (nI (kU σ)))) (fun H => ∃ (g' : Nat → Nat) (M' : gM), g' 0 = g 0 ∧ mP E A g' M' H ∧ CX E g' M' (coS σ xc xn xv)) A) 2 22 A := by
  refine z_entry (by decide) rfl (Nat.le_of_ble_eq_true rfl) ?_
  intro p e s m args below meth c hx hb hr hml hts hown hlocks hin hP hK hZ ls hl
  have hl : lv_has ls 4 [(0, .ref (g 0)), (1, .int xc), (2, .int xn), (3, .int xv)] := hl
  have hown : s.vm.findClass RX4 = some m.cls := hown
  have hS : va_S A s.heap s.heap [] := va_S.rf
  skip
  obtain ⟨hM, hA⟩ := hP
  obtain ⟨⟨hR9, hG9, hU9, hD9⟩, -⟩ := id hv
  obtain ⟨mc1, el1, h1, -⟩ := CW.LR hw
  obtain ⟨mc2, el2, h2, -⟩ := CW.LG hw
  obtain ⟨mc3, el3, h3, -⟩ := CW.LU hw
  refine lv_iload_n hx hb dX4_come_0 rfl (lv_at hl 1 rfl) ?_
  refine lv_iconst (v := 0) hx hb dX4_come_1 (by decide) ?_
  refine lv_sipush (v := 1000) hx hb dX4_come_2 (by decide) ?_
  refine m_cS 3 [.int xc, .int 0, .int 1000] [] hx hb hml hown hts hK (c_withinY l E A g M xc 0 1000 (hok.1)) gX4_come_X4_within rfl rfl rfl (by decide +kernel) rfl ⟨Nat.le_of_ble_eq_true rfl, Nat.le_of_ble_eq_true rfl⟩ trivial hl.1 (Nat.le_of_ble_eq_true rfl) ⟨Nat.le_of_ble_eq_true rfl, Nat.le_of_ble_eq_true rfl⟩ rfl dX4_come_5 ?_
  refine lv_if_eq (tgt := 32) hx hb dX4_come_8 (by decide) (fun c9 => absurd c9 (by decide)) (fun c9 => ?_)
  refine lv_iload_n hx hb dX4_come_11 rfl (lv_at hl 2 rfl) ?_
  refine lv_iconst (v := 1) hx hb dX4_come_12 (by decide) ?_
  refine lv_bipush (v := 6) hx hb dX4_come_13 (by decide) ?_
  refine m_cS 3 [.int xn, .int 1, .int 6] [] hx hb hml hown hts hK (c_withinY l E A g M xn 1 6 (hok.2.1)) gX4_come_X4_within rfl rfl rfl (by decide +kernel) rfl ⟨Nat.le_of_ble_eq_true rfl, Nat.le_of_ble_eq_true rfl⟩ trivial hl.1 (Nat.le_of_ble_eq_true rfl) ⟨Nat.le_of_ble_eq_true rfl, Nat.le_of_ble_eq_true rfl⟩ rfl dX4_come_15 ?_
  refine lv_if_eq (tgt := 32) hx hb dX4_come_18 (by decide) (fun c9 => absurd c9 (by decide)) (fun c9 => ?_)
  refine lv_iload_n hx hb dX4_come_21 rfl (lv_at hl 3 rfl) ?_
  refine lv_bipush (v := (-9)) hx hb dX4_come_22 (by decide) ?_
  refine lv_bipush (v := 90) hx hb dX4_come_24 (by decide) ?_
  refine m_cS 3 [.int xv, .int (-9), .int 90] [] hx hb hml hown hts hK (c_withinY l E A g M xv (-9) 90 (hok.2.2)) gX4_come_X4_within rfl rfl rfl (by decide +kernel) rfl ⟨Nat.le_of_ble_eq_true rfl, Nat.le_of_ble_eq_true rfl⟩ trivial hl.1 (Nat.le_of_ble_eq_true rfl) ⟨Nat.le_of_ble_eq_true rfl, Nat.le_of_ble_eq_true rfl⟩ rfl dX4_come_26 ?_
  refine lv_if_ne (tgt := 42) hx hb dX4_come_29 (by decide) (fun c9 => ?_) (fun c9 => absurd c9 (by decide))
  refine lv_aload_n hx hb dX4_come_42 rfl (lv_at hl 0 rfl) ?_
  refine m_get hx hb hts in_X4_come_X4 hown hK hM (CW.x hw) rfl 2 (by decide) (by decide +kernel) rfl dX4_come_43 ?_
  refine m_cV 0 [] [] hx hb hml hown hts hK (c_size l E A g M (CW.LU hw)) gX4_come_Jx4a65c_size_8abf5 rfl rfl rfl (by decide +kernel) rfl ⟨Nat.le_of_ble_eq_true rfl, Nat.le_of_ble_eq_true rfl⟩ hM h3 rfl rfl hM hl.1 (Nat.le_of_ble_eq_true rfl) ⟨Nat.le_of_ble_eq_true rfl, Nat.le_of_ble_eq_true rfl⟩ rfl dX4_come_46 ?_
  refine lv_bipush (v := 12) hx hb dX4_come_49 (by decide) ?_
  refine lv_icmp_lt (tgt := 64) hx hb dX4_come_51 (by decide) (fun c51 => ?_) (fun c9 => absurd (nI_lt (b := 12) (by omega) (by decide)) c9)
  refine lv_aload_n hx hb dX4_come_64 rfl (lv_at hl 0 rfl) ?_
  refine m_get hx hb hts in_X4_come_X4 hown hK hM (CW.x hw) rfl 2 (by decide) (by decide +kernel) rfl dX4_come_65 ?_
  have hn9 : M (400 + kU σ) = none := cd_none2 hd (by omega) (fun i hi => by omega) (fun i hi => by omega) (fun i hi => by omega)
  obtain ⟨q9, hq9⟩ : ∃ q, q = s.heap.size := ⟨_, rfl⟩
  refine m_newZ (ci := 2) hx hb hts in_X4_come_X1 tyX1 tyX1_ok hown (by decide +kernel) (by decide +kernel) (by decide +kernel) hK hM hS hA (400 + kU σ) hn9 rfl (fs := [.int 0, .int 0, .int 0, .int 0, .int 0, .int 0, .int 0]) (fun j hj => by rcases (show j = 0 ∨ j = 1 ∨ j = 2 ∨ j = 3 ∨ j = 4 ∨ j = 5 ∨ j = 6 by omega) with rfl | rfl | rfl | rfl | rfl | rfl | rfl <;> rfl) (Nat.le_of_ble_eq_true rfl) (Nat.le_of_ble_eq_true rfl) dX4_come_68 (fun H hM hz ho hS => ?_)
  have hA := fun (q : Nat) (h : H.size ≤ q) => hA q (by omega)
  rw [← hq9] at hM ⊢
  obtain ⟨g, M, hgu, hgt, hMu, hMt, hM⟩ : ∃ (g2 : Nat → Nat) (M2 : gM), (∀ u, u ≠ (400 + kU σ) → g2 u = g u) ∧ g2 (400 + kU σ) = q9 ∧ (∀ u, u ≠ (400 + kU σ) → M2 u = M u) ∧ M2 (400 + kU σ) = some (.inr (2, [.int 0, .int 0, .int 0, .int 0, .int 0, .int 0, .int 0])) ∧ mP E A g2 M2 H := ⟨_, _, fun u hu => gu1_n hu, gu1_s, fun u hu => mu_n hu, mu_s, hM⟩
  have hl : lv_has ls 4 [(0, .ref (g 0)), (1, .int xc), (2, .int xn), (3, .int xv)] := by rw [hgu 0 (by omega)]; exact hl
  refine W.eq (g2 := F0 m 71 ls [.ref (g (400 + kU σ)), .ref (g 3)]) (by rw [hgt, hgu 3 (by omega)]) ?_
  refine lv_dup hx hb dX4_come_71 rfl ?_
  refine lv_iload_n hx hb dX4_come_72 rfl (lv_at hl 1 rfl) ?_
  refine lv_iload_n hx hb dX4_come_73 rfl (lv_at hl 2 rfl) ?_
  refine lv_iload_n hx hb dX4_come_74 rfl (lv_at hl 3 rfl) ?_
  refine m_wI 3 [.int xc, .int xn, .int xv] [.ref (g (400 + kU σ)), .ref (g 3)] hx hb hml hown hts hK (c_guestInit l E A g M (400 + kU σ) xc xn xv hMt) gX4_come_X1_init rfl rfl rfl (by decide +kernel) (by decide +kernel) (by decide +kernel) rfl (by decide +kernel) rfl ⟨Nat.le_of_ble_eq_true rfl, Nat.le_of_ble_eq_true rfl⟩ hM hl.1 (Nat.le_of_ble_eq_true rfl) ⟨Nat.le_of_ble_eq_true rfl, Nat.le_of_ble_eq_true rfl⟩ rfl dX4_come_75 hS (fun _ _ h => h) (fun _ h => h) (fun H locs hQ hz hk hS => ?_)
  refine W.eq (g2 := F0 m 78 ls [.ref (g (400 + kU σ)), .ref (g 3)]) rfl ?_
  obtain ⟨M, hMv, hMt, hM⟩ : ∃ M2 : gM, (∀ u, u ≠ (400 + kU σ) → M2 u = M u) ∧ M2 (400 + kU σ) = some (.inr (2, [.int xn, .int xc, .int xv, .int (-1), .int 0, .int 0, .int 0])) ∧ mP E A g M2 H := ⟨_, fun u hu => mu_n hu, mu_s, hQ⟩
  have hMu := fun u hu => (hMv u hu).trans (hMu u hu)
  have hA := fun (q : Nat) (h : H.size ≤ q) => hA q (by omega)
  have hn99 : M 99 = none := (hMu 99 (by omega)).trans (cd_none2 hd (by omega) (fun i hi => by omega) (fun i hi => by omega) (fun i hi => by omega))
  have hL9 : LW E g M 3 9 400 (kU σ) := (CW.LU hw).away (hMu 3 (by omega)) (hMu 9 (by omega)) (hgu 9 (by omega)) (fun i hi => hgu _ (by omega))
  have hob9 : ∀ i, i ≤ kU σ → ∃ vs : List Value, M (400 + i) = some (.inr (2, vs)) := fun i hi => by rcases Nat.lt_or_eq_of_le hi with q | q; exact ⟨_, (hMu _ (by omega)).trans (CW.guest hw q)⟩; (subst q; exact ⟨_, hMt⟩)
  refine m_zV 1 [.ref (g (400 + kU σ))] [] hx hb hml hown hts hK (c_add l E A g M 3 9 99 400 (kU σ) 2 _ (by decide) hn99 hL9 (by omega) rfl (by simp) hob9 (fun i hi => ⟨by omega, by omega⟩)) gX4_come_Jx4a65c_add_9ea2d rfl rfl rfl (by decide +kernel) rfl ⟨Nat.le_of_ble_eq_true rfl, Nat.le_of_ble_eq_true rfl⟩ hM ((hMu 3 (by omega)).trans h3) rfl rfl ⟨hM, hA⟩ hl.1 (Nat.le_of_ble_eq_true rfl) ⟨Nat.le_of_ble_eq_true rfl, Nat.le_of_ble_eq_true rfl⟩ rfl dX4_come_78 hZ (fun _ h => h) hS (fun _ _ h => h) (fun _ h => h) (fun H locs hQ hz hk hS => ?_)
  refine W.eq (g2 := F0 m 81 ls [.int (bI true)]) rfl ?_
  obtain ⟨g, M, hg8, hM8, hM, hL8⟩ := hQ
  have hA := fun (q : Nat) (h : H.size ≤ q) => hA q (by omega)
  have hX9 : CX E g M (coS σ xc xn xv) := cx_co ⟨hw, hp, hd⟩ ⟨hR9, hG9, hn⟩ xc xn xv (fun u h1 h2 => (hg8 u h2).trans (hgu u h1)) (fun u h1 h2 h3 => (hM8 u h2 h3).trans (hMu u h1)) ((hM8 _ (by omega) (by omega)).trans hMt) hL8
  have hg0 := (hg8 0 (by omega)).trans (hgu 0 (by omega))
  obtain ⟨hw, hp, hd⟩ := hX9
  obtain ⟨mc1, el1, h1, -⟩ := CW.LR hw
  obtain ⟨mc2, el2, h2, -⟩ := CW.LG hw
  obtain ⟨mc3, el3, h3, -⟩ := CW.LU hw
  have hl : lv_has ls 4 [(0, .ref (g 0)), (1, .int xc), (2, .int xn), (3, .int xv)] := by have h9 := lv_sub hl [0, 1, 2, 3] rfl; rw [hg8 0 (by omega)]; exact h9
  refine lv_pop hx hb dX4_come_81 rfl ?_
  refine lv_aload_n hx hb dX4_come_82 rfl (lv_at hl 0 rfl) ?_
  refine m_get hx hb hts in_X4_come_X4 hown hK hM (CW.x hw) rfl 2 (by decide) (by decide +kernel) rfl dX4_come_83 ?_
  refine m_cV 0 [] [] hx hb hml hown hts hK (c_size l E A g M (CW.LU hw)) gX4_come_Jx4a65c_size_8abf5 rfl rfl rfl (by decide +kernel) rfl ⟨Nat.le_of_ble_eq_true rfl, Nat.le_of_ble_eq_true rfl⟩ hM h3 rfl rfl hM hl.1 (Nat.le_of_ble_eq_true rfl) ⟨Nat.le_of_ble_eq_true rfl, Nat.le_of_ble_eq_true rfl⟩ rfl dX4_come_86 ?_
  refine lv_iconst (v := 1) hx hb dX4_come_89 (by decide) ?_
  refine lv_isub hx hb dX4_come_90 ?_
  refine W.eq (g2 := F0 m 91 ls [.int ((nI (kU σ + 1)) - 1)]) rfl ?_
  rw [show ((nI (kU σ + 1)) - 1 : Int32) = nI (kU σ) from nI_p1 _]
  exact w_i hx hb hr hlocks dX4_come_91 hS (Nat.le_of_ble_eq_true rfl) (Nat.le_of_ble_eq_true rfl) (by first | rfl | assumption) (⟨g, M, hg0, hM, hw, hp, hd⟩)
