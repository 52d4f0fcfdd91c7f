/-! THE REFERENCE'S MOST -/
def pR (σ : Sg) : Nat := 2 ^ kR σ
theorem pR_le {σ : Sg} (h : kR σ ≤ 10) : 1 ≤ pR σ ∧ pR σ ≤ 1024 := ⟨Nat.one_le_two_pow, Nat.pow_le_pow_right (n := 2) (by decide) h⟩
theorem shl_pow : ∀ k, k < 11 → (1 : Int32) <<< (nI k &&& 31) = nI (2 ^ k) := by decide +kernel
theorem xor_pow : ∀ a, a < 1024 → ∀ k, k < 10 → nI a ^^^ nI (2 ^ k) = nI (a ^^^ 2 ^ k) := by decide +kernel
theorem dp_lt {a k : Nat} (ha : a < 1024) (hk : k < 10) : a ^^^ 2 ^ k < 1024 := Nat.xor_lt_two_pow (n := 10) ha (Nat.pow_lt_pow_right (by decide) hk)
theorem nI_dec {n : Nat} (h : 0 < n) : nI n + Int32.ofInt (-1) = nI (n - 1) := by
  obtain ⟨k, rfl⟩ : ∃ k, n = k + 1 := ⟨n - 1, by omega⟩
  exact pk_m1 k
def dt0 : Nat → Int32 := fun a => if a = 0 then 0 else -1
def dpR (σ : Sg) (u : Nat) (T : Nat → Int32) (a : Nat) : Nat → Int32
  | 0 => T a
  | r + 1 => if a ^^^ 2 ^ r < a ∧ ¬ T (a ^^^ 2 ^ r) = -1 ∧ sui σ u r = true then (if dpR σ u T a r < T (a ^^^ 2 ^ r) + sGu σ u 4 then T (a ^^^ 2 ^ r) + sGu σ u 4 else dpR σ u T a r) else dpR σ u T a r
def dpN (σ : Sg) (u : Nat) (T : Nat → Int32) : Nat → Int32 := fun a => if a = 0 then T 0 else dpR σ u T a (kR σ)
def dpT (σ : Sg) : Nat → Nat → Int32
  | 0 => dt0
  | u + 1 => if sGu σ u 3 = -1 then dpT σ u else dpN σ u (dpT σ u)
def mdS (σ : Sg) (u : Nat) (T : Nat → Int32) (m0 : Int32) : Nat → Int32
  | 0 => m0
  | i + 1 => if mdS σ u T m0 i < dpN σ u T (pR σ - 1 - i) then dpN σ u T (pR σ - 1 - i) else mdS σ u T m0 i
def mdM (σ : Sg) : Nat → Int32
  | 0 => 0
  | u + 1 => if sGu σ u 3 = -1 then mdM σ u else mdS σ u (dpT σ u) (mdM σ u) (pR σ - 1)
def dpW (σ : Sg) (u : Nat) (T : Nat → Int32) (i r : Nat) : Nat → Int32 := fun a => if a = pR σ - 1 - i then dpR σ u T a r else if pR σ - 1 - i < a then dpN σ u T a else T a
theorem dpW_lt {σ : Sg} {u : Nat} {T : Nat → Int32} {i r a : Nat} (h : a < pR σ - 1 - i) : dpW σ u T i r a = T a := by
  show (if _ then _ else _) = _
  rw [if_neg (by omega), if_neg (by omega)]
theorem dpW_eq {σ : Sg} {u : Nat} {T : Nat → Int32} {i r : Nat} : dpW σ u T i r (pR σ - 1 - i) = dpR σ u T (pR σ - 1 - i) r := if_pos rfl
theorem dpW_end {σ : Sg} {u : Nat} {T : Nat → Int32} {i : Nat} (h : i < pR σ - 1) : dpW σ u T i (kR σ) (pR σ - 1 - i) = dpN σ u T (pR σ - 1 - i) := by
  rw [dpW_eq]
  exact (if_neg (by omega)).symm
theorem dpW_skip {σ : Sg} {u : Nat} {T : Nat → Int32} {i r : Nat} (h : ¬ ((pR σ - 1 - i) ^^^ 2 ^ r < pR σ - 1 - i ∧ ¬ T ((pR σ - 1 - i) ^^^ 2 ^ r) = -1 ∧ sui σ u r = true)) : dpW σ u T i (r + 1) = dpW σ u T i r := by
  funext a
  show (if _ then _ else _) = (if _ then _ else _)
  by_cases e : a = pR σ - 1 - i
  · rw [if_pos e, if_pos e, e, dpR, if_neg h]
  · rw [if_neg e, if_neg e]
theorem dpW_put {σ : Sg} {u : Nat} {T : Nat → Int32} {i r n : Nat} {f : Nat → Int32} {x : Int32} (h : (pR σ - 1 - i) ^^^ 2 ^ r < pR σ - 1 - i ∧ ¬ T ((pR σ - 1 - i) ^^^ 2 ^ r) = -1 ∧ sui σ u r = true) (hf : ∀ a, a < n → f a = dpW σ u T i r a)
    (hx : x = if dpR σ u T (pR σ - 1 - i) r < T ((pR σ - 1 - i) ^^^ 2 ^ r) + sGu σ u 4 then T ((pR σ - 1 - i) ^^^ 2 ^ r) + sGu σ u 4 else dpR σ u T (pR σ - 1 - i) r) : ∀ a, a < n → (if a = pR σ - 1 - i then x else f a) = dpW σ u T i (r + 1) a := by
  intro a ha
  show _ = (if _ then _ else _)
  by_cases e : a = pR σ - 1 - i
  · rw [if_pos e, if_pos e, e, dpR, if_pos h]; exact hx
  · rw [if_neg e, if_neg e, hf a ha]
    show (if _ then _ else _) = _
    rw [if_neg e]
theorem dpW_next {σ : Sg} {u : Nat} {T : Nat → Int32} {i : Nat} (h : i < pR σ - 1) : ∀ a, a < pR σ → dpW σ u T i (kR σ) a = dpW σ u T (i + 1) 0 a := by
  intro a ha
  show (if _ then _ else _) = (if _ then _ else _)
  by_cases e : a = pR σ - 1 - i
  · rw [if_pos e, if_neg (by omega), if_pos (by omega)]
    exact (if_neg (by omega)).symm
  · rw [if_neg e]
    by_cases e2 : a = pR σ - 1 - (i + 1)
    · rw [if_pos e2, if_neg (by omega)]; rfl
    · rw [if_neg e2]
      by_cases e3 : pR σ - 1 - i < a
      · rw [if_pos e3, if_pos (by omega)]
      · rw [if_neg e3, if_neg (by omega)]
theorem dpW_0 {σ : Sg} {u : Nat} {T : Nat → Int32} : ∀ a, a < pR σ → T a = dpW σ u T 0 0 a := by
  intro a ha
  show _ = (if _ then _ else _)
  by_cases e : a = pR σ - 1 - 0
  · rw [if_pos e]; rfl
  · rw [if_neg e, if_neg (by omega)]
theorem dpW_all {σ : Sg} {u : Nat} {T : Nat → Int32} : ∀ a, a < pR σ → dpW σ u T (pR σ - 1) 0 a = dpN σ u T a := by
  intro a ha
  show (if _ then _ else _) = (if _ then _ else _)
  rw [Nat.sub_self]
  by_cases e : a = 0
  · rw [if_pos e, if_pos e, e]; rfl
  · rw [if_neg e, if_pos (by omega)]
    rfl
def TX (E : gE) (g : Nat → Nat) (M : gM) (σ : Sg) (n : Nat) (T : Nat → Int32) : Prop := MW E g M σ 0 ∧ ∃ f : Nat → Int32, M 6 = some (.inl (E.2.1, 1024, .inl f)) ∧ ∀ a, a < n → f a = T a
theorem MW.mu6 {E : gE} {g : Nat → Nat} {M : gM} {σ : Sg} {th : Int32} {f : Nat → Int32} (hw : MW E g M σ th) : MW E g (mu M 6 (.inl (E.2.1, 1024, .inl f))) σ th := by
  obtain ⟨a0, a1, a2, a3, a4, a5, -, a7⟩ := hw
  refine ⟨?_, ?_, ?_, ?_, ?_, ?_, ⟨f, mu_s⟩, fun t ht => by rw [mu_n (by omega)]; exact a7 t ht⟩
  · rw [mu_n (by decide)]; exact a0
  · rw [mu_n (by decide)]; exact a1
  · rw [mu_n (by decide)]; exact a2
  · rw [mu_n (by decide)]; exact a3
  · rw [mu_n (by decide)]; exact a4
  · rw [mu_n (by decide)]; exact a5
theorem TX.put {E : gE} {g : Nat → Nat} {M : gM} {σ : Sg} {f : Nat → Int32} (hw : MW E g M σ 0) {T2 : Nat → Int32} {n2 i : Nat} {x : Int32} (hi : i < 2 ^ 31) (h : ∀ a, a < n2 → (if a = i then x else f a) = T2 a) : TX E g (mu M 6 (.inl (E.2.1, 1024, .inl (upd f (nI i).toNatClampNeg x)))) σ n2 T2 := by
  refine ⟨hw.mu6, _, mu_s, fun a ha => ?_⟩
  rw [nI_clamp hi, ← h a ha]
  rfl
theorem TX.cong {E : gE} {g : Nat → Nat} {M : gM} {σ : Sg} {n : Nat} {T T2 : Nat → Int32} (h : TX E g M σ n T) (h2 : ∀ a, a < n → T a = T2 a) : TX E g M σ n T2 := by
  obtain ⟨hw, f, m6, hf⟩ := h
  exact ⟨hw, f, m6, fun a ha => (hf a ha).trans (h2 a ha)⟩
theorem in_X5_most_X5 : ∀ w ∈ u_ws RX5 TX5 11, w ∈ wsX5_most := by decide +kernel
set_option maxHeartbeats 4000000 in
set_option maxRecDepth 100000 in
theorem m_most (l : Launch) (E : gE) (A : Nat → Prop) (g : Nat → Nat) (M : gM) (σ : Sg) (th : Int32) (hv : VS σ) (hw : MW E g M σ th)  : Met l yX5_most wsX5_most ({ frames := 2, cells := 0, slots := 0, locals := 44 } : Room) (Pm E [.ref (g 0)] (mP E A g M)) (QW (some (.int (mdM σ (kU σ)))) (fun H => ∃ M', mP E A g M' H ∧ MW E g M' σ 0) A) 0 0 A := by
  refine m_entry (by decide) rfl (Nat.le_of_ble_eq_true rfl) ?_
  intro p e s m args below meth c hx hb hr hml hts hown hlocks hin hM hK ls hl
  have hl : lv_has ls 6 [(0, .ref (g 0))] := hl
  have hown : s.vm.findClass RX5 = some m.cls := hown
  have hS : va_S A s.heap s.heap [] := va_S.rf
  skip
  obtain ⟨⟨hR9, hG9, hU9, hD9⟩, -⟩ := id hv
  obtain ⟨f1, m1, hf1⟩ := MW.house hw
  obtain ⟨f2, m2, hf2⟩ := MW.joined hw
  obtain ⟨f3, m3, hf3⟩ := MW.spooks hw
  obtain ⟨f4, m4, hf4⟩ := MW.people hw
  obtain ⟨f5, m5, hf5⟩ := MW.numbers hw
  obtain ⟨hp1, hp2⟩ := pR_le hR9
  have e15 := shl_pow (kR σ) (by omega)
  refine lv_aload_n hx hb dX5_most_0 rfl (lv_at hl 0 rfl) ?_
  refine lv_iconst (v := 0) hx hb dX5_most_1 (by decide) ?_
  refine m_put hx hb hts in_X5_most_X5 tyX5 tyX5_ok nmX5 hown hK hM hS (MW.x hw) rfl 0 (by decide) (by decide +kernel) rfl (tyX5_ok 0 (by decide)) rfl rfl (Nat.le_of_ble_eq_true rfl) dX5_most_2 (fun H locs hM hz hS => ?_)
  obtain ⟨M, hM, hw⟩ : ∃ M', mP E A g M' H ∧ MW E g M' σ 0 := ⟨_, hM, MW.setTh hw _⟩
  obtain ⟨f1, m1, hf1⟩ := MW.house hw
  obtain ⟨f2, m2, hf2⟩ := MW.joined hw
  obtain ⟨f3, m3, hf3⟩ := MW.spooks hw
  obtain ⟨f4, m4, hf4⟩ := MW.people hw
  obtain ⟨f5, m5, hf5⟩ := MW.numbers hw
  refine lv_iconst (v := 0) hx hb dX5_most_5 (by decide) ?_
  refine lv_istore_n (lv' := [(1, .int 0), (0, .ref (g 0))]) hx hb dX5_most_6 rfl hl (by decide) rfl (fun ls hl => ?_)
  refine lv_iconst (v := 0) hx hb dX5_most_7 (by decide) ?_
  refine lv_istore_n (lv' := [(2, .int 0), (1, .int 0), (0, .ref (g 0))]) hx hb dX5_most_8 rfl hl (by decide) rfl (fun ls hl => ?_)
  have lp9 : ∀ (n9 i : Nat), n9 + i = pR σ → ∀ (H : Heap) (locs : List Loc) (M : gM), (mP E A g M H ∧ TX E g M σ i dt0) → va_S A s.heap H locs → ∀ ls : Array Slot, lv_has ls 6 [(2, .int (nI i)), (1, .int 0), (0, .ref (g 0))] → W p l e ({ frames := 2, cells := 0, slots := 0, locals := 44 } : Room) s m args below meth c H locs 0 0 (MQ below (QW (some (.int (mdM σ (kU σ)))) (fun H => ∃ M', mP E A g M' H ∧ MW E g M' σ 0) A) args s 0 0 A) (F0 m 9 ls []) := by
    intro n9
    induction n9 with
    | zero =>
      intro i hi9 H locs M hI hS ls hl
      obtain ⟨hM, hT⟩ := hI
      obtain ⟨hw, f6, m6, hf6⟩ := id hT
      obtain ⟨f1, m1, hf1⟩ := MW.house hw
      obtain ⟨f2, m2, hf2⟩ := MW.joined hw
      obtain ⟨f3, m3, hf3⟩ := MW.spooks hw
      obtain ⟨f4, m4, hf4⟩ := MW.people hw
      obtain ⟨f5, m5, hf5⟩ := MW.numbers hw
      obtain rfl : pR σ = i := by omega
      refine lv_iload_n hx hb dX5_most_9 rfl (lv_at hl 0 rfl) ?_
      refine lv_iconst (v := 1) hx hb dX5_most_10 (by decide) ?_
      refine lv_aload_n hx hb dX5_most_11 rfl (lv_at hl 2 rfl) ?_
      refine m_get hx hb hts in_X5_most_X5 hown hK hM (MW.x hw) rfl 1 (by decide) (by decide +kernel) rfl dX5_most_12 ?_
      refine lv_ishl hx hb dX5_most_15 ?_
      rw [show (1 <<< ((nI (kR σ)) &&& 31) : Int32) = nI (pR σ) from e15]
      refine lv_icmp_ge (tgt := 40) hx hb dX5_most_16 (by decide) (fun c16 => ?_) (fun c9 => absurd (Int32.le_refl _) c9)
      refine lv_iconst (v := 0) hx hb dX5_most_40 (by decide) ?_
      refine lv_istore_n (lv' := [(2, .int 0), (1, .int 0), (0, .ref (g 0))]) hx hb dX5_most_41 rfl hl (by decide) rfl (fun ls hl => ?_)
      have lp42 : ∀ (n42 i : Nat), n42 + i = kU σ → ∀ (H : Heap) (locs : List Loc) (M : gM), (mP E A g M H ∧ TX E g M σ (pR σ) (dpT σ i)) → va_S A s.heap H locs → ∀ x1 : Int32, x1 = mdM σ i → ∀ ls : Array Slot, lv_has ls 6 [(2, .int (nI i)), (1, .int x1), (0, .ref (g 0))] → W p l e ({ frames := 2, cells := 0, slots := 0, locals := 44 } : Room) s m args below meth c H locs 0 0 (MQ below (QW (some (.int (mdM σ (kU σ)))) (fun H => ∃ M', mP E A g M' H ∧ MW E g M' σ 0) A) args s 0 0 A) (F0 m 42 ls []) := by
        intro n42
        induction n42 with
        | zero =>
          intro i hi42 H locs M hI hS x1 ex1 ls hl
          obtain ⟨hM, hT⟩ := hI
          obtain ⟨hw, f6, m6, hf6⟩ := id hT
          obtain ⟨f1, m1, hf1⟩ := MW.house hw
          obtain ⟨f2, m2, hf2⟩ := MW.joined hw
          obtain ⟨f3, m3, hf3⟩ := MW.spooks hw
          obtain ⟨f4, m4, hf4⟩ := MW.people hw
          obtain ⟨f5, m5, hf5⟩ := MW.numbers hw
          obtain rfl : kU σ = i := by omega
          refine lv_iload_n hx hb dX5_most_42 rfl (lv_at hl 0 rfl) ?_
          refine lv_aload_n hx hb dX5_most_43 rfl (lv_at hl 2 rfl) ?_
          refine m_get hx hb hts in_X5_most_X5 hown hK hM (MW.x hw) rfl 4 (by decide) (by decide +kernel) rfl dX5_most_44 ?_
          refine lv_icmp_ge (tgt := 181) hx hb dX5_most_47 (by decide) (fun c47 => ?_) (fun c9 => absurd (Int32.le_refl _) c9)
          refine lv_iload_n hx hb dX5_most_181 rfl (lv_at hl 1 rfl) ?_
          exact w_i hx hb hr hlocks dX5_most_182 hS (Nat.le_of_ble_eq_true rfl) (Nat.le_of_ble_eq_true rfl) (ex1) (⟨_, hM, hw⟩)
        | succ n42 ih42 =>
          intro i hi42 H locs M hI hS x1 ex1 ls hl
          obtain ⟨hM, hT⟩ := hI
          obtain ⟨hw, f6, m6, hf6⟩ := id hT
          obtain ⟨f1, m1, hf1⟩ := MW.house hw
          obtain ⟨f2, m2, hf2⟩ := MW.joined hw
          obtain ⟨f3, m3, hf3⟩ := MW.spooks hw
          obtain ⟨f4, m4, hf4⟩ := MW.people hw
          obtain ⟨f5, m5, hf5⟩ := MW.numbers hw
          have hlt42 : i < kU σ := by omega
          refine lv_iload_n hx hb dX5_most_42 rfl (lv_at hl 0 rfl) ?_
          refine lv_aload_n hx hb dX5_most_43 rfl (lv_at hl 2 rfl) ?_
          refine m_get hx hb hts in_X5_most_X5 hown hK hM (MW.x hw) rfl 4 (by decide) (by decide +kernel) rfl dX5_most_44 ?_
          refine lv_icmp_ge (tgt := 181) hx hb dX5_most_47 (by decide) (fun c9 => absurd c9 (nI_ge hlt42 (by omega))) (fun c47 => ?_)
          refine lv_aload_n hx hb dX5_most_50 rfl (lv_at hl 2 rfl) ?_
          refine lv_iload_n hx hb dX5_most_51 rfl (lv_at hl 0 rfl) ?_
          refine lv_iconst (v := 3) hx hb dX5_most_52 (by decide) ?_
          refine m_cV 2 [.int (nI i), .int 3] [] hx hb hml hown hts hK (c_pe l E A g M σ 0 hw i 3 (by omega) (by omega)) gX5_most_X5_pe rfl rfl rfl (by decide +kernel) rfl ⟨Nat.le_of_ble_eq_true rfl, Nat.le_of_ble_eq_true rfl⟩ hM (MW.x hw) rfl rfl hM hl.1 (Nat.le_of_ble_eq_true rfl) ⟨Nat.le_of_ble_eq_true rfl, Nat.le_of_ble_eq_true rfl⟩ rfl dX5_most_53 ?_
          refine lv_iconst (v := (-1)) hx hb dX5_most_56 (by decide) ?_
          refine lv_icmp_ne (tgt := 63) hx hb dX5_most_57 (by decide) (fun c57 => ?_) (fun c57 => ?_)
          · refine lv_iconst (v := 1) hx hb dX5_most_63 (by decide) ?_
            refine lv_aload_n hx hb dX5_most_64 rfl (lv_at hl 2 rfl) ?_
            refine m_get hx hb hts in_X5_most_X5 hown hK hM (MW.x hw) rfl 1 (by decide) (by decide +kernel) rfl dX5_most_65 ?_
            refine lv_ishl hx hb dX5_most_68 ?_
            rw [show (1 <<< ((nI (kR σ)) &&& 31) : Int32) = nI (pR σ) from e15]
            refine lv_iconst (v := 1) hx hb dX5_most_69 (by decide) ?_
            refine lv_isub hx hb dX5_most_70 ?_
            rw [show ((nI (pR σ)) - 1 : Int32) = nI (pR σ - 1) from pk_sub hp1]
            refine lv_istore_n (lv' := [(3, .int (nI (pR σ - 1))), (2, .int (nI i)), (1, .int x1), (0, .ref (g 0))]) hx hb dX5_most_71 rfl hl (by decide) rfl (fun ls hl => ?_)
            have lp72 : ∀ (n72 j : Nat), n72 + j = pR σ - 1 → ∀ (H : Heap) (locs : List Loc) (M : gM), (mP E A g M H ∧ TX E g M σ (pR σ) (dpW σ i (dpT σ i) j 0)) → va_S A s.heap H locs → ∀ x3 : Int32, x3 = nI (pR σ - 1 - j) → ∀ y1 : Int32, y1 = mdS σ i (dpT σ i) x1 j → ∀ ls : Array Slot, lv_has ls 6 [(3, .int x3), (1, .int y1), (2, .int (nI i)), (0, .ref (g 0))] → W p l e ({ frames := 2, cells := 0, slots := 0, locals := 44 } : Room) s m args below meth c H locs 0 0 (MQ below (QW (some (.int (mdM σ (kU σ)))) (fun H => ∃ M', mP E A g M' H ∧ MW E g M' σ 0) A) args s 0 0 A) (F0 m 72 ls []) := by
              intro n72
              induction n72 with
              | zero =>
                intro j hi72 H locs M hI hS x3 ex3 y1 ey1 ls hl
                obtain ⟨hM, hT⟩ := hI
                obtain ⟨hw, f6, m6, hf6⟩ := id hT
                obtain ⟨f1, m1, hf1⟩ := MW.house hw
                obtain ⟨f2, m2, hf2⟩ := MW.joined hw
                obtain ⟨f3, m3, hf3⟩ := MW.spooks hw
                obtain ⟨f4, m4, hf4⟩ := MW.people hw
                obtain ⟨f5, m5, hf5⟩ := MW.numbers hw
                obtain rfl : pR σ - 1 = j := by omega
                subst ex3
                refine lv_iload_n hx hb dX5_most_72 rfl (lv_at hl 0 rfl) ?_
                refine lv_if_le (tgt := 175) hx hb dX5_most_73 (by decide) (fun c73 => ?_) (fun c9 => absurd (by rw [Nat.sub_self]; decide) c9)
                refine lv_iinc (v := nI (i + 1)) (lv' := [(2, .int (nI (i + 1))), (3, .int (nI (pR σ - 1 - (pR σ - 1)))), (1, .int y1), (0, .ref (g 0))]) hx hb dX5_most_175 hl (k := 2) rfl (m_inc _) (by decide) rfl (fun ls hl => ?_)
                refine lv_goto (tgt := 42) hx hb dX5_most_178 (by decide) ?_
                exact ih42 (i + 1) (by omega) _ _ _ ⟨hM, by rw [dpT, if_neg c57]; exact hT.cong dpW_all⟩ hS _ (by rw [mdM, if_neg c57, ey1, ex1]) ls (lv_sub hl [0, 2, 3] rfl)
              | succ n72 ih72 =>
                intro j hi72 H locs M hI hS x3 ex3 y1 ey1 ls hl
                obtain ⟨hM, hT⟩ := hI
                obtain ⟨hw, f6, m6, hf6⟩ := id hT
                obtain ⟨f1, m1, hf1⟩ := MW.house hw
                obtain ⟨f2, m2, hf2⟩ := MW.joined hw
                obtain ⟨f3, m3, hf3⟩ := MW.spooks hw
                obtain ⟨f4, m4, hf4⟩ := MW.people hw
                obtain ⟨f5, m5, hf5⟩ := MW.numbers hw
                have hlt72 : j < pR σ - 1 := by omega
                subst ex3
                refine lv_iload_n hx hb dX5_most_72 rfl (lv_at hl 0 rfl) ?_
                refine lv_if_le (tgt := 175) hx hb dX5_most_73 (by decide) (fun c9 => absurd c9 (nI_nle (by omega) (by omega))) (fun c73 => ?_)
                refine lv_iconst (v := 0) hx hb dX5_most_76 (by decide) ?_
                refine lv_istore (lv' := [(4, .int 0), (3, .int (nI (pR σ - 1 - j))), (1, .int y1), (2, .int (nI i)), (0, .ref (g 0))]) hx hb dX5_most_77 hl (by decide) rfl (fun ls hl => ?_)
                have lp79 : ∀ (n79 k : Nat), n79 + k = kR σ → ∀ (H : Heap) (locs : List Loc) (M : gM), (mP E A g M H ∧ TX E g M σ (pR σ) (dpW σ i (dpT σ i) j k)) → va_S A s.heap H locs → ∀ ls : Array Slot, lv_has ls 6 [(4, .int (nI k)), (3, .int (nI (pR σ - 1 - j))), (1, .int y1), (2, .int (nI i)), (0, .ref (g 0))] → W p l e ({ frames := 2, cells := 0, slots := 0, locals := 44 } : Room) s m args below meth c H locs 0 0 (MQ below (QW (some (.int (mdM σ (kU σ)))) (fun H => ∃ M', mP E A g M' H ∧ MW E g M' σ 0) A) args s 0 0 A) (F0 m 79 ls []) := by
                  intro n79
                  induction n79 with
                  | zero =>
                    intro k hi79 H locs M hI hS ls hl
                    obtain ⟨hM, hT⟩ := hI
                    obtain ⟨hw, f6, m6, hf6⟩ := id hT
                    obtain ⟨f1, m1, hf1⟩ := MW.house hw
                    obtain ⟨f2, m2, hf2⟩ := MW.joined hw
                    obtain ⟨f3, m3, hf3⟩ := MW.spooks hw
                    obtain ⟨f4, m4, hf4⟩ := MW.people hw
                    obtain ⟨f5, m5, hf5⟩ := MW.numbers hw
                    obtain rfl : kR σ = k := by omega
                    refine lv_iload hx hb dX5_most_79 (lv_at hl 0 rfl) ?_
                    refine lv_aload_n hx hb dX5_most_81 rfl (lv_at hl 4 rfl) ?_
                    refine m_get hx hb hts in_X5_most_X5 hown hK hM (MW.x hw) rfl 1 (by decide) (by decide +kernel) rfl dX5_most_82 ?_
                    refine lv_icmp_ge (tgt := 158) hx hb dX5_most_85 (by decide) (fun c85 => ?_) (fun c9 => absurd (Int32.le_refl _) c9)
                    refine lv_iload_n hx hb dX5_most_158 rfl (lv_at hl 2 rfl) ?_
                    refine lv_aload_n hx hb dX5_most_159 rfl (lv_at hl 4 rfl) ?_
                    refine m_get hx hb hts in_X5_most_X5 hown hK hM (MW.x hw) rfl 10 (by decide) (by decide +kernel) rfl dX5_most_160 ?_
                    refine lv_iload_n hx hb dX5_most_163 rfl (lv_at hl 1 rfl) ?_
                    refine m_iald (v := dpN σ i (dpT σ i) (pR σ - 1 - j)) hx hb hK hM m6 (ix_ok (by omega)) (rd_ok (by omega) ((hf6 _ (by omega)).trans (dpW_end hlt72))) dX5_most_164 ?_
                    refine va_mmax hx hb (hml.trans hl.1.symm) hown (hts (.methodLink RX5 116 Lib.Math.max.name) (by decide +kernel)) (hts (.static Lib.Math.max.name) (by decide +kernel)) (hts (.initialized "java/lang/Math") (by decide +kernel)) (hts (.code Lib.Math.max.name Lib.Math.max.code 2 (some .int)) (by decide +kernel)) (Nat.le_of_ble_eq_true rfl) (Nat.le_of_ble_eq_true rfl) (Nat.zero_le _) (Nat.zero_le _) dX5_most_165 ?_
                    refine lv_istore_n (lv' := [(1, .int (if y1 < (dpN σ i (dpT σ i) (pR σ - 1 - j)) then (dpN σ i (dpT σ i) (pR σ - 1 - j)) else y1)), (4, .int (nI (kR σ))), (3, .int (nI (pR σ - 1 - j))), (2, .int (nI i)), (0, .ref (g 0))]) hx hb dX5_most_168 rfl hl (by decide) rfl (fun ls hl => ?_)
                    refine lv_iinc (v := nI (pR σ - 1 - (j + 1))) (lv' := [(3, .int (nI (pR σ - 1 - (j + 1)))), (1, .int (if y1 < (dpN σ i (dpT σ i) (pR σ - 1 - j)) then (dpN σ i (dpT σ i) (pR σ - 1 - j)) else y1)), (4, .int (nI (kR σ))), (2, .int (nI i)), (0, .ref (g 0))]) hx hb dX5_most_169 hl (k := 2) rfl (nI_dec (n := (pR σ - 1 - j)) (by omega)) (by decide) rfl (fun ls hl => ?_)
                    refine lv_goto (tgt := 72) hx hb dX5_most_172 (by decide) ?_
                    exact ih72 (j + 1) (by omega) _ _ _ ⟨hM, hT.cong (dpW_next hlt72)⟩ hS _ (rfl) _ (by rw [mdS, ← ey1]) ls (lv_sub hl [0, 1, 3, 4] rfl)
                  | succ n79 ih79 =>
                    intro k hi79 H locs M hI hS ls hl
                    obtain ⟨hM, hT⟩ := hI
                    obtain ⟨hw, f6, m6, hf6⟩ := id hT
                    obtain ⟨f1, m1, hf1⟩ := MW.house hw
                    obtain ⟨f2, m2, hf2⟩ := MW.joined hw
                    obtain ⟨f3, m3, hf3⟩ := MW.spooks hw
                    obtain ⟨f4, m4, hf4⟩ := MW.people hw
                    obtain ⟨f5, m5, hf5⟩ := MW.numbers hw
                    have hlt79 : k < kR σ := by omega
                    refine lv_iload hx hb dX5_most_79 (lv_at hl 0 rfl) ?_
                    refine lv_aload_n hx hb dX5_most_81 rfl (lv_at hl 4 rfl) ?_
                    refine m_get hx hb hts in_X5_most_X5 hown hK hM (MW.x hw) rfl 1 (by decide) (by decide +kernel) rfl dX5_most_82 ?_
                    refine lv_icmp_ge (tgt := 158) hx hb dX5_most_85 (by decide) (fun c9 => absurd c9 (nI_ge hlt79 (by omega))) (fun c85 => ?_)
                    refine lv_iload_n hx hb dX5_most_88 rfl (lv_at hl 1 rfl) ?_
                    refine lv_iconst (v := 1) hx hb dX5_most_89 (by decide) ?_
                    refine lv_iload hx hb dX5_most_90 (lv_at hl 0 rfl) ?_
                    refine lv_ishl hx hb dX5_most_92 ?_
                    rw [show (1 <<< ((nI k) &&& 31) : Int32) = nI (2 ^ k) from shl_pow k (by omega)]
                    refine lv_ixor hx hb dX5_most_93 ?_
                    rw [show ((nI (pR σ - 1 - j)) ^^^ (nI (2 ^ k)) : Int32) = nI ((pR σ - 1 - j) ^^^ 2 ^ k) from xor_pow _ (by omega) k (by omega)]
                    refine lv_istore (lv' := [(5, .int (nI ((pR σ - 1 - j) ^^^ 2 ^ k))), (4, .int (nI k)), (3, .int (nI (pR σ - 1 - j))), (1, .int y1), (2, .int (nI i)), (0, .ref (g 0))]) hx hb dX5_most_94 hl (by decide) rfl (fun ls hl => ?_)
                    refine lv_iload hx hb dX5_most_96 (lv_at hl 0 rfl) ?_
                    refine lv_iload_n hx hb dX5_most_98 rfl (lv_at hl 2 rfl) ?_
                    refine lv_icmp_ge (tgt := 152) hx hb dX5_most_99 (by decide) (fun c99 => ?_) (fun c99 => ?_)
                    · have hx9 : (pR σ - 1 - j) ^^^ 2 ^ k < 1024 := dp_lt (by omega) (by omega)
                      have hq9 : ¬ (pR σ - 1 - j) ^^^ 2 ^ k < (pR σ - 1 - j) := fun q => absurd c99 (nI_ge q (by omega))
                      refine lv_iinc (v := nI (k + 1)) (lv' := [(4, .int (nI (k + 1))), (5, .int (nI ((pR σ - 1 - j) ^^^ 2 ^ k))), (3, .int (nI (pR σ - 1 - j))), (1, .int y1), (2, .int (nI i)), (0, .ref (g 0))]) hx hb dX5_most_152 hl (k := 1) rfl (m_inc _) (by decide) rfl (fun ls hl => ?_)
                      refine lv_goto (tgt := 79) hx hb dX5_most_155 (by decide) ?_
                      exact ih79 (k + 1) (by omega) _ _ _ ⟨hM, by rw [dpW_skip (fun q => hq9 q.1)]; exact hT⟩ hS ls (lv_sub hl [0, 2, 3, 4, 5] rfl)
                    · have hx9 : (pR σ - 1 - j) ^^^ 2 ^ k < 1024 := dp_lt (by omega) (by omega)
                      have hq9 : (pR σ - 1 - j) ^^^ 2 ^ k < (pR σ - 1 - j) := by have := mt (nI_leI (a := (pR σ - 1 - j)) (b := ((pR σ - 1 - j) ^^^ 2 ^ k)) (by omega) (by omega)).mpr c99; omega
                      refine lv_aload_n hx hb dX5_most_102 rfl (lv_at hl 5 rfl) ?_
                      refine m_get hx hb hts in_X5_most_X5 hown hK hM (MW.x hw) rfl 10 (by decide) (by decide +kernel) rfl dX5_most_103 ?_
                      refine lv_iload hx hb dX5_most_106 (lv_at hl 0 rfl) ?_
                      refine m_iald (v := dpT σ i ((pR σ - 1 - j) ^^^ 2 ^ k)) hx hb hK hM m6 (ix_ok ⟨hx9, by decide⟩) (rd_ok (by omega) ((hf6 _ (by omega)).trans (dpW_lt hq9))) dX5_most_108 ?_
                      refine lv_iconst (v := (-1)) hx hb dX5_most_109 (by decide) ?_
                      refine lv_icmp_eq (tgt := 152) hx hb dX5_most_110 (by decide) (fun c110 => ?_) (fun c110 => ?_)
                      · refine lv_iinc (v := nI (k + 1)) (lv' := [(4, .int (nI (k + 1))), (5, .int (nI ((pR σ - 1 - j) ^^^ 2 ^ k))), (3, .int (nI (pR σ - 1 - j))), (1, .int y1), (2, .int (nI i)), (0, .ref (g 0))]) hx hb dX5_most_152 hl (k := 1) rfl (m_inc _) (by decide) rfl (fun ls hl => ?_)
                        refine lv_goto (tgt := 79) hx hb dX5_most_155 (by decide) ?_
                        exact ih79 (k + 1) (by omega) _ _ _ ⟨hM, by rw [dpW_skip (fun q => q.2.1 c110)]; exact hT⟩ hS ls (lv_sub hl [0, 2, 3, 4, 5] rfl)
                      · refine lv_aload_n hx hb dX5_most_113 rfl (lv_at hl 5 rfl) ?_
                        refine lv_iload_n hx hb dX5_most_114 rfl (lv_at hl 4 rfl) ?_
                        refine lv_iload hx hb dX5_most_115 (lv_at hl 1 rfl) ?_
                        refine m_cV 2 [.int (nI i), .int (nI k)] [] hx hb hml hown hts hK (c_suits l E A g M σ 0 hv hw i k (by omega) (by omega)) gX5_most_X5_suits rfl rfl rfl (by decide +kernel) rfl ⟨Nat.le_of_ble_eq_true rfl, Nat.le_of_ble_eq_true rfl⟩ hM (MW.x hw) rfl rfl hM hl.1 (Nat.le_of_ble_eq_true rfl) ⟨Nat.le_of_ble_eq_true rfl, Nat.le_of_ble_eq_true rfl⟩ rfl dX5_most_117 ?_
                        refine lv_if_eq (tgt := 152) hx hb dX5_most_120 (by decide) (fun c120 => ?_) (fun c120 => ?_)
                        · have c120 := bI_f c120
                          refine lv_iinc (v := nI (k + 1)) (lv' := [(4, .int (nI (k + 1))), (5, .int (nI ((pR σ - 1 - j) ^^^ 2 ^ k))), (3, .int (nI (pR σ - 1 - j))), (1, .int y1), (2, .int (nI i)), (0, .ref (g 0))]) hx hb dX5_most_152 hl (k := 1) rfl (m_inc _) (by decide) rfl (fun ls hl => ?_)
                          refine lv_goto (tgt := 79) hx hb dX5_most_155 (by decide) ?_
                          exact ih79 (k + 1) (by omega) _ _ _ ⟨hM, by rw [dpW_skip (fun q => by rw [c120] at q; exact absurd q.2.2 (by decide))]; exact hT⟩ hS ls (lv_sub hl [0, 2, 3, 4, 5] rfl)
                        · have c120 := bI_t c120
                          refine lv_aload_n hx hb dX5_most_123 rfl (lv_at hl 5 rfl) ?_
                          refine m_get hx hb hts in_X5_most_X5 hown hK hM (MW.x hw) rfl 10 (by decide) (by decide +kernel) rfl dX5_most_124 ?_
                          refine lv_iload_n hx hb dX5_most_127 rfl (lv_at hl 2 rfl) ?_
                          refine lv_aload_n hx hb dX5_most_128 rfl (lv_at hl 5 rfl) ?_
                          refine m_get hx hb hts in_X5_most_X5 hown hK hM (MW.x hw) rfl 10 (by decide) (by decide +kernel) rfl dX5_most_129 ?_
                          refine lv_iload_n hx hb dX5_most_132 rfl (lv_at hl 2 rfl) ?_
                          refine m_iald (v := dpR σ i (dpT σ i) (pR σ - 1 - j) k) hx hb hK hM m6 (ix_ok (by omega)) (rd_ok (by omega) ((hf6 _ (by omega)).trans dpW_eq)) dX5_most_133 ?_
                          refine lv_aload_n hx hb dX5_most_134 rfl (lv_at hl 5 rfl) ?_
                          refine m_get hx hb hts in_X5_most_X5 hown hK hM (MW.x hw) rfl 10 (by decide) (by decide +kernel) rfl dX5_most_135 ?_
                          refine lv_iload hx hb dX5_most_138 (lv_at hl 0 rfl) ?_
                          refine m_iald (v := dpT σ i ((pR σ - 1 - j) ^^^ 2 ^ k)) hx hb hK hM m6 (ix_ok ⟨hx9, by decide⟩) (rd_ok (by omega) ((hf6 _ (by omega)).trans (dpW_lt hq9))) dX5_most_140 ?_
                          refine lv_aload_n hx hb dX5_most_141 rfl (lv_at hl 5 rfl) ?_
                          refine lv_iload_n hx hb dX5_most_142 rfl (lv_at hl 4 rfl) ?_
                          refine lv_iconst (v := 4) hx hb dX5_most_143 (by decide) ?_
                          refine m_cV 2 [.int (nI i), .int 4] [.int (dpT σ i ((pR σ - 1 - j) ^^^ 2 ^ k)), .int (dpR σ i (dpT σ i) (pR σ - 1 - j) k), .int (nI (pR σ - 1 - j)), .ref (g 6)] hx hb hml hown hts hK (c_pe l E A g M σ 0 hw i 4 (by omega) (by omega)) gX5_most_X5_pe rfl rfl rfl (by decide +kernel) rfl ⟨Nat.le_of_ble_eq_true rfl, Nat.le_of_ble_eq_true rfl⟩ hM (MW.x hw) rfl rfl hM hl.1 (Nat.le_of_ble_eq_true rfl) ⟨Nat.le_of_ble_eq_true rfl, Nat.le_of_ble_eq_true rfl⟩ rfl dX5_most_144 ?_
                          refine lv_iadd hx hb dX5_most_147 ?_
                          refine va_mmax hx hb (hml.trans hl.1.symm) hown (hts (.methodLink RX5 116 Lib.Math.max.name) (by decide +kernel)) (hts (.static Lib.Math.max.name) (by decide +kernel)) (hts (.initialized "java/lang/Math") (by decide +kernel)) (hts (.code Lib.Math.max.name Lib.Math.max.code 2 (some .int)) (by decide +kernel)) (Nat.le_of_ble_eq_true rfl) (Nat.le_of_ble_eq_true rfl) (Nat.zero_le _) (Nat.zero_le _) dX5_most_148 ?_
                          refine m_iast hx hb hK hM hS m6 (ix_ok (by omega)) dX5_most_151 (fun H locs hM hz hS => ?_)
                          obtain ⟨M, hM, hT⟩ : ∃ M', mP E A g M' H ∧ TX E g M' σ (pR σ) (dpW σ i (dpT σ i) j (k + 1)) := ⟨_, hM, TX.put hw (by omega) (dpW_put ⟨hq9, c110, c120⟩ hf6 rfl)⟩
                          obtain ⟨hw, f6, m6, hf6⟩ := id hT
                          obtain ⟨f1, m1, hf1⟩ := MW.house hw
                          obtain ⟨f2, m2, hf2⟩ := MW.joined hw
                          obtain ⟨f3, m3, hf3⟩ := MW.spooks hw
                          obtain ⟨f4, m4, hf4⟩ := MW.people hw
                          obtain ⟨f5, m5, hf5⟩ := MW.numbers hw
                          refine lv_iinc (v := nI (k + 1)) (lv' := [(4, .int (nI (k + 1))), (5, .int (nI ((pR σ - 1 - j) ^^^ 2 ^ k))), (3, .int (nI (pR σ - 1 - j))), (1, .int y1), (2, .int (nI i)), (0, .ref (g 0))]) hx hb dX5_most_152 hl (k := 1) rfl (m_inc _) (by decide) rfl (fun ls hl => ?_)
                          refine lv_goto (tgt := 79) hx hb dX5_most_155 (by decide) ?_
                          exact ih79 (k + 1) (by omega) _ _ _ ⟨hM, hT⟩ hS ls (lv_sub hl [0, 2, 3, 4, 5] rfl)
                exact lp79 (kR σ) 0 (by omega) _ _ _ ⟨hM, hT⟩ hS ls (lv_sub hl [0, 1, 2, 3, 4] rfl)
            exact lp72 (pR σ - 1) 0 (by omega) _ _ _ ⟨hM, hT.cong dpW_0⟩ hS _ (rfl) _ (rfl) ls (lv_sub hl [0, 2, 1, 3] rfl)
          · refine lv_goto (tgt := 175) hx hb dX5_most_60 (by decide) ?_
            refine lv_iinc (v := nI (i + 1)) (lv' := [(2, .int (nI (i + 1))), (1, .int x1), (0, .ref (g 0))]) hx hb dX5_most_175 hl (k := 0) rfl (m_inc _) (by decide) rfl (fun ls hl => ?_)
            refine lv_goto (tgt := 42) hx hb dX5_most_178 (by decide) ?_
            exact ih42 (i + 1) (by omega) _ _ _ ⟨hM, by rw [dpT, if_pos c57]; exact hT⟩ hS _ (by rw [mdM, if_pos c57, ex1]) ls (lv_sub hl [0, 1, 2] rfl)
      exact lp42 (kU σ) 0 (by omega) _ _ _ ⟨hM, hT⟩ hS _ (rfl) ls (lv_sub hl [0, 1, 2] rfl)
    | succ n9 ih9 =>
      intro i hi9 H locs M hI hS ls hl
      obtain ⟨hM, hT⟩ := hI
      obtain ⟨hw, f6, m6, hf6⟩ := id hT
      obtain ⟨f1, m1, hf1⟩ := MW.house hw
      obtain ⟨f2, m2, hf2⟩ := MW.joined hw
      obtain ⟨f3, m3, hf3⟩ := MW.spooks hw
      obtain ⟨f4, m4, hf4⟩ := MW.people hw
      obtain ⟨f5, m5, hf5⟩ := MW.numbers hw
      have hlt9 : i < pR σ := by omega
      refine lv_iload_n hx hb dX5_most_9 rfl (lv_at hl 0 rfl) ?_
      refine lv_iconst (v := 1) hx hb dX5_most_10 (by decide) ?_
      refine lv_aload_n hx hb dX5_most_11 rfl (lv_at hl 2 rfl) ?_
      refine m_get hx hb hts in_X5_most_X5 hown hK hM (MW.x hw) rfl 1 (by decide) (by decide +kernel) rfl dX5_most_12 ?_
      refine lv_ishl hx hb dX5_most_15 ?_
      rw [show (1 <<< ((nI (kR σ)) &&& 31) : Int32) = nI (pR σ) from e15]
      refine lv_icmp_ge (tgt := 40) hx hb dX5_most_16 (by decide) (fun c9 => absurd c9 (nI_ge hlt9 (by omega))) (fun c16 => ?_)
      refine lv_aload_n hx hb dX5_most_19 rfl (lv_at hl 2 rfl) ?_
      refine m_get hx hb hts in_X5_most_X5 hown hK hM (MW.x hw) rfl 10 (by decide) (by decide +kernel) rfl dX5_most_20 ?_
      refine lv_iload_n hx hb dX5_most_23 rfl (lv_at hl 0 rfl) ?_
      refine lv_iload_n hx hb dX5_most_24 rfl (lv_at hl 0 rfl) ?_
      refine lv_if_ne (tgt := 32) hx hb dX5_most_25 (by decide) (fun c25 => ?_) (fun c25 => ?_)
      · refine lv_iconst (v := (-1)) hx hb dX5_most_32 (by decide) ?_
        refine m_iast hx hb hK hM hS m6 (ix_ok (by omega)) dX5_most_33 (fun H locs hM hz hS => ?_)
        obtain ⟨M, hM, hT⟩ : ∃ M', mP E A g M' H ∧ TX E g M' σ (i + 1) dt0 := ⟨_, hM, TX.put hw (by omega) (fun a ha => by by_cases q : a = i; (rw [if_pos q, q]; exact (if_neg (fun q => c25 ((nI_eq0 (by omega)).mpr q))).symm); (rw [if_neg q]; exact hf6 a (by omega)))⟩
        obtain ⟨hw, f6, m6, hf6⟩ := id hT
        obtain ⟨f1, m1, hf1⟩ := MW.house hw
        obtain ⟨f2, m2, hf2⟩ := MW.joined hw
        obtain ⟨f3, m3, hf3⟩ := MW.spooks hw
        obtain ⟨f4, m4, hf4⟩ := MW.people hw
        obtain ⟨f5, m5, hf5⟩ := MW.numbers hw
        refine lv_iinc (v := nI (i + 1)) (lv' := [(2, .int (nI (i + 1))), (1, .int 0), (0, .ref (g 0))]) hx hb dX5_most_34 hl (k := 0) rfl (m_inc _) (by decide) rfl (fun ls hl => ?_)
        refine lv_goto (tgt := 9) hx hb dX5_most_37 (by decide) ?_
        exact ih9 (i + 1) (by omega) _ _ _ ⟨hM, hT⟩ hS ls (lv_sub hl [0, 1, 2] rfl)
      · refine lv_iconst (v := 0) hx hb dX5_most_28 (by decide) ?_
        refine lv_goto (tgt := 33) hx hb dX5_most_29 (by decide) ?_
        refine m_iast hx hb hK hM hS m6 (ix_ok (by omega)) dX5_most_33 (fun H locs hM hz hS => ?_)
        obtain ⟨M, hM, hT⟩ : ∃ M', mP E A g M' H ∧ TX E g M' σ (i + 1) dt0 := ⟨_, hM, TX.put hw (by omega) (fun a ha => by by_cases q : a = i; (rw [if_pos q, q]; exact (if_pos ((nI_eq0 (by omega)).mp c25)).symm); (rw [if_neg q]; exact hf6 a (by omega)))⟩
        obtain ⟨hw, f6, m6, hf6⟩ := id hT
        obtain ⟨f1, m1, hf1⟩ := MW.house hw
        obtain ⟨f2, m2, hf2⟩ := MW.joined hw
        obtain ⟨f3, m3, hf3⟩ := MW.spooks hw
        obtain ⟨f4, m4, hf4⟩ := MW.people hw
        obtain ⟨f5, m5, hf5⟩ := MW.numbers hw
        refine lv_iinc (v := nI (i + 1)) (lv' := [(2, .int (nI (i + 1))), (1, .int 0), (0, .ref (g 0))]) hx hb dX5_most_34 hl (k := 0) rfl (m_inc _) (by decide) rfl (fun ls hl => ?_)
        refine lv_goto (tgt := 9) hx hb dX5_most_37 (by decide) ?_
        exact ih9 (i + 1) (by omega) _ _ _ ⟨hM, hT⟩ hS ls (lv_sub hl [0, 1, 2] rfl)
  obtain ⟨f6, m6⟩ := MW.taken hw
  exact lp9 (pR σ) 0 (by omega) _ _ _ ⟨hM, hw, f6, m6, fun a ha => absurd ha (Nat.not_lt_zero a)⟩ hS ls (lv_sub hl [0, 1, 2] rfl)
