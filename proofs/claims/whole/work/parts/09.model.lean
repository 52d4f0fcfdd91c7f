/-! THE REFERENCE'S WORLD -/
def MW (E : gE) (g : Nat → Nat) (M : gM) (σ : Sg) (th : Int32) : Prop :=
  M 0 = some (.inr (6, [.int th, .int (nI (kR σ)), .int (nI (kD σ)), .int (nI (kG σ)), .int (nI (kU σ)), .ref (g 1), .ref (g 2), .ref (g 3), .ref (g 4), .ref (g 5), .ref (g 6)])) ∧
  (∃ f : Nat → Int32, M 1 = some (.inl (E.2.1, 50, .inl f)) ∧ ∀ r k, r < 10 → k < 5 → f (5 * r + k) = sRm σ r k) ∧
  (∃ f : Nat → Int32, M 2 = some (.inl (E.2.1, 10, .inl f)) ∧ ∀ r, r < 10 → f r = sJn σ r) ∧
  (∃ f : Nat → Int32, M 3 = some (.inl (E.2.1, 20, .inl f)) ∧ ∀ i k, i < 5 → k < 4 → f (4 * i + k) = sGh σ i k) ∧
  (∃ f : Nat → Int32, M 4 = some (.inl (E.2.1, 84, .inl f)) ∧ ∀ u k, u < 12 → k < 7 → f (7 * u + k) = sGu σ u k) ∧
  (∃ f : Nat → Int32, M 5 = some (.inl (E.2.1, 3, .inl f)) ∧ f 0 = sN σ ∧ f 1 = sH σ ∧ f 2 = sB σ) ∧
  (∃ f : Nat → Int32, M 6 = some (.inl (E.2.1, 1024, .inl f))) ∧ (∀ t, 7 ≤ t → M t = none)
section
variable {E : gE} {g : Nat → Nat} {M : gM} {σ : Sg} {th : Int32}
theorem MW.x (h : MW E g M σ th) : M 0 = some (.inr (6, [.int th, .int (nI (kR σ)), .int (nI (kD σ)), .int (nI (kG σ)), .int (nI (kU σ)), .ref (g 1), .ref (g 2), .ref (g 3), .ref (g 4), .ref (g 5), .ref (g 6)])) := h.1
theorem MW.house (h : MW E g M σ th) : ∃ f : Nat → Int32, M 1 = some (.inl (E.2.1, 50, .inl f)) ∧ ∀ r k, r < 10 → k < 5 → f (5 * r + k) = sRm σ r k := h.2.1
theorem MW.joined (h : MW E g M σ th) : ∃ f : Nat → Int32, M 2 = some (.inl (E.2.1, 10, .inl f)) ∧ ∀ r, r < 10 → f r = sJn σ r := h.2.2.1
theorem MW.spooks (h : MW E g M σ th) : ∃ f : Nat → Int32, M 3 = some (.inl (E.2.1, 20, .inl f)) ∧ ∀ i k, i < 5 → k < 4 → f (4 * i + k) = sGh σ i k := h.2.2.2.1
theorem MW.people (h : MW E g M σ th) : ∃ f : Nat → Int32, M 4 = some (.inl (E.2.1, 84, .inl f)) ∧ ∀ u k, u < 12 → k < 7 → f (7 * u + k) = sGu σ u k := h.2.2.2.2.1
theorem MW.numbers (h : MW E g M σ th) : ∃ f : Nat → Int32, M 5 = some (.inl (E.2.1, 3, .inl f)) ∧ f 0 = sN σ ∧ f 1 = sH σ ∧ f 2 = sB σ := h.2.2.2.2.2.1
theorem MW.taken (h : MW E g M σ th) : ∃ f : Nat → Int32, M 6 = some (.inl (E.2.1, 1024, .inl f)) := h.2.2.2.2.2.2.1
theorem MW.dom (h : MW E g M σ th) : ∀ t, 7 ≤ t → M t = none := h.2.2.2.2.2.2.2
end
theorem ix_m (a r k : Nat) : nI a * nI r + nI k = nI (a * r + k) := by rw [pk_mul, nI_add]
theorem in_X5_ro_X5 : ∀ w ∈ u_ws RX5 TX5 11, w ∈ wsX5_ro := by decide +kernel
set_option maxHeartbeats 4000000 in
set_option maxRecDepth 100000 in
theorem c_ro (l : Launch) (E : gE) (A : Nat → Prop) (g : Nat → Nat) (M : gM) (σ : Sg) (th : Int32) (hw : MW E g M σ th) (i k : Nat) (hi : i < 10) (hk : k < 5) : Met l yX5_ro wsX5_ro ({ frames := 0, cells := 0, slots := 0, locals := 0 } : Room) (Pm E [.ref (g 0), .int (nI i), .int (nI k)] (mP E A g M)) (k2_QcV (.int (sRm σ i k))) 0 0 (fun _ => False) := by
  refine m_entry (by decide) rfl (Nat.le_of_ble_eq_true rfl) ?_
  intro p e s m args below meth c hx hb hr hml hts hown hlocks hin hM hK ls hl
  have hl : lv_has ls 3 [(0, .ref (g 0)), (1, .int (nI i)), (2, .int (nI k))] := hl
  have hown : s.vm.findClass RX5 = some m.cls := hown
  obtain ⟨f1, m1, hf1⟩ := MW.house hw
  obtain ⟨f2, m2, hf2⟩ := MW.joined hw
  obtain ⟨f3, m3, hf3⟩ := MW.spooks hw
  obtain ⟨f4, m4, hf4⟩ := MW.people hw
  obtain ⟨f5, m5, hf5⟩ := MW.numbers hw
  refine lv_aload_n hx hb dX5_ro_0 rfl (lv_at hl 0 rfl) ?_
  refine m_get hx hb hts in_X5_ro_X5 hown hK hM (MW.x hw) rfl 5 (by decide) (by decide +kernel) rfl dX5_ro_1 ?_
  refine lv_iconst (v := 5) hx hb dX5_ro_4 (by decide) ?_
  refine lv_iload_n hx hb dX5_ro_5 rfl (lv_at hl 1 rfl) ?_
  refine lv_imul hx hb dX5_ro_6 ?_
  refine lv_iload_n hx hb dX5_ro_7 rfl (lv_at hl 2 rfl) ?_
  refine lv_iadd hx hb dX5_ro_8 ?_
  rw [show ((5 * (nI i)) + (nI k) : Int32) = nI (5 * i + k) from ix_m 5 i k]
  refine m_iald (v := sRm σ i k) hx hb hK hM m1 (ix_ok (by omega)) (rd_ok (by omega) (hf1 i k hi hk)) dX5_ro_9 ?_
  exact r_i hx hb hr hlocks dX5_ro_10 (by first | rfl | assumption)
theorem in_X5_sp_X5 : ∀ w ∈ u_ws RX5 TX5 11, w ∈ wsX5_sp := by decide +kernel
set_option maxHeartbeats 4000000 in
set_option maxRecDepth 100000 in
theorem c_sp (l : Launch) (E : gE) (A : Nat → Prop) (g : Nat → Nat) (M : gM) (σ : Sg) (th : Int32) (hw : MW E g M σ th) (i k : Nat) (hi : i < 5) (hk : k < 4) : Met l yX5_sp wsX5_sp ({ frames := 0, cells := 0, slots := 0, locals := 0 } : Room) (Pm E [.ref (g 0), .int (nI i), .int (nI k)] (mP E A g M)) (k2_QcV (.int (sGh σ i k))) 0 0 (fun _ => False) := by
  refine m_entry (by decide) rfl (Nat.le_of_ble_eq_true rfl) ?_
  intro p e s m args below meth c hx hb hr hml hts hown hlocks hin hM hK ls hl
  have hl : lv_has ls 3 [(0, .ref (g 0)), (1, .int (nI i)), (2, .int (nI k))] := hl
  have hown : s.vm.findClass RX5 = some m.cls := hown
  obtain ⟨f1, m1, hf1⟩ := MW.house hw
  obtain ⟨f2, m2, hf2⟩ := MW.joined hw
  obtain ⟨f3, m3, hf3⟩ := MW.spooks hw
  obtain ⟨f4, m4, hf4⟩ := MW.people hw
  obtain ⟨f5, m5, hf5⟩ := MW.numbers hw
  refine lv_aload_n hx hb dX5_sp_0 rfl (lv_at hl 0 rfl) ?_
  refine m_get hx hb hts in_X5_sp_X5 hown hK hM (MW.x hw) rfl 7 (by decide) (by decide +kernel) rfl dX5_sp_1 ?_
  refine lv_iconst (v := 4) hx hb dX5_sp_4 (by decide) ?_
  refine lv_iload_n hx hb dX5_sp_5 rfl (lv_at hl 1 rfl) ?_
  refine lv_imul hx hb dX5_sp_6 ?_
  refine lv_iload_n hx hb dX5_sp_7 rfl (lv_at hl 2 rfl) ?_
  refine lv_iadd hx hb dX5_sp_8 ?_
  rw [show ((4 * (nI i)) + (nI k) : Int32) = nI (4 * i + k) from ix_m 4 i k]
  refine m_iald (v := sGh σ i k) hx hb hK hM m3 (ix_ok (by omega)) (rd_ok (by omega) (hf3 i k hi hk)) dX5_sp_9 ?_
  exact r_i hx hb hr hlocks dX5_sp_10 (by first | rfl | assumption)
theorem in_X5_pe_X5 : ∀ w ∈ u_ws RX5 TX5 11, w ∈ wsX5_pe := by decide +kernel
set_option maxHeartbeats 4000000 in
set_option maxRecDepth 100000 in
theorem c_pe (l : Launch) (E : gE) (A : Nat → Prop) (g : Nat → Nat) (M : gM) (σ : Sg) (th : Int32) (hw : MW E g M σ th) (i k : Nat) (hi : i < 12) (hk : k < 7) : Met l yX5_pe wsX5_pe ({ frames := 0, cells := 0, slots := 0, locals := 0 } : Room) (Pm E [.ref (g 0), .int (nI i), .int (nI k)] (mP E A g M)) (k2_QcV (.int (sGu σ i k))) 0 0 (fun _ => False) := by
  refine m_entry (by decide) rfl (Nat.le_of_ble_eq_true rfl) ?_
  intro p e s m args below meth c hx hb hr hml hts hown hlocks hin hM hK ls hl
  have hl : lv_has ls 3 [(0, .ref (g 0)), (1, .int (nI i)), (2, .int (nI k))] := hl
  have hown : s.vm.findClass RX5 = some m.cls := hown
  obtain ⟨f1, m1, hf1⟩ := MW.house hw
  obtain ⟨f2, m2, hf2⟩ := MW.joined hw
  obtain ⟨f3, m3, hf3⟩ := MW.spooks hw
  obtain ⟨f4, m4, hf4⟩ := MW.people hw
  obtain ⟨f5, m5, hf5⟩ := MW.numbers hw
  refine lv_aload_n hx hb dX5_pe_0 rfl (lv_at hl 0 rfl) ?_
  refine m_get hx hb hts in_X5_pe_X5 hown hK hM (MW.x hw) rfl 8 (by decide) (by decide +kernel) rfl dX5_pe_1 ?_
  refine lv_bipush (v := 7) hx hb dX5_pe_4 (by decide) ?_
  refine lv_iload_n hx hb dX5_pe_6 rfl (lv_at hl 1 rfl) ?_
  refine lv_imul hx hb dX5_pe_7 ?_
  refine lv_iload_n hx hb dX5_pe_8 rfl (lv_at hl 2 rfl) ?_
  refine lv_iadd hx hb dX5_pe_9 ?_
  rw [show ((7 * (nI i)) + (nI k) : Int32) = nI (7 * i + k) from ix_m 7 i k]
  refine m_iald (v := sGu σ i k) hx hb hK hM m4 (ix_ok (by omega)) (rd_ok (by omega) (hf4 i k hi hk)) dX5_pe_10 ?_
  exact r_i hx hb hr hlocks dX5_pe_11 (by first | rfl | assumption)
set_option maxHeartbeats 4000000 in
set_option maxRecDepth 100000 in
theorem c_isIn (l : Launch) (E : gE) (A : Nat → Prop) (g : Nat → Nat) (M : gM) (x lo hi : Int32) : Met l yX5_isIn wsX5_isIn ({ frames := 0, cells := 0, slots := 0, locals := 0 } : Room) (Pm E [.int x, .int lo, .int hi] (fun _ => True)) (k2_QcV (.int (bI (decide (lo ≤ x ∧ x ≤ hi))))) 0 0 (fun _ => False) := by
  refine m_entry (by decide) rfl (Nat.le_of_ble_eq_true rfl) ?_
  intro p e s m args below meth c hx hb hr hml hts hown hlocks hin _ hK ls hl
  have hl : lv_has ls 3 [(0, .int x), (1, .int lo), (2, .int hi)] := hl
  have hown : s.vm.findClass RX5 = some m.cls := hown
  refine lv_iload_n hx hb dX5_isIn_0 rfl (lv_at hl 0 rfl) ?_
  refine lv_iload_n hx hb dX5_isIn_1 rfl (lv_at hl 1 rfl) ?_
  refine lv_icmp_lt (tgt := 14) hx hb dX5_isIn_2 (by decide) (fun c2 => ?_) (fun c2 => ?_)
  · refine lv_iconst (v := 0) hx hb dX5_isIn_14 (by decide) ?_
    exact r_z hx hb hr hlocks dX5_isIn_15 (bI_zero (decide_eq_false (by first | omega | (simp only [Int32.le_iff_toInt_le, Int32.lt_iff_toInt_lt, ← Int32.toInt_inj] at c2 ⊢; omega))))
  · refine lv_iload_n hx hb dX5_isIn_5 rfl (lv_at hl 0 rfl) ?_
    refine lv_iload_n hx hb dX5_isIn_6 rfl (lv_at hl 2 rfl) ?_
    refine lv_icmp_gt (tgt := 14) hx hb dX5_isIn_7 (by decide) (fun c7 => ?_) (fun c7 => ?_)
    · refine lv_iconst (v := 0) hx hb dX5_isIn_14 (by decide) ?_
      exact r_z hx hb hr hlocks dX5_isIn_15 (bI_zero (decide_eq_false (by first | omega | (simp only [Int32.le_iff_toInt_le, Int32.lt_iff_toInt_lt, ← Int32.toInt_inj] at c2 c7 ⊢; omega))))
    · refine lv_iconst (v := 1) hx hb dX5_isIn_10 (by decide) ?_
      refine lv_goto (tgt := 15) hx hb dX5_isIn_11 (by decide) ?_
      exact r_z hx hb hr hlocks dX5_isIn_15 (bI_one (decide_eq_true (by first | omega | (simp only [Int32.le_iff_toInt_le, Int32.lt_iff_toInt_lt, ← Int32.toInt_inj] at c2 c7 ⊢; omega))))
theorem pred_lt {n : Nat} (hn : n < 2 ^ 31) (x : Int32) : (0 ≤ x ∧ x ≤ nI n - 1) ↔ (0 ≤ x ∧ x < nI n) := by
  cases n with
  | zero =>
    have e1 : nI 0 - 1 = -1 := by decide
    have e2 : nI 0 = 0 := rfl
    rw [e1, e2]
    constructor
    · intro h; exact absurd (Int32.le_trans h.1 h.2) (by decide)
    · intro h; exact absurd h.2 (Int32.not_lt.mpr h.1)
  | succ n =>
    rw [nI_pred]
    simp only [Int32.le_iff_toInt_le, Int32.lt_iff_toInt_lt, nI_toInt hn, nI_toInt (show n < 2 ^ 31 by omega)]
    constructor
    · intro h; exact ⟨h.1, by omega⟩
    · intro h; exact ⟨h.1, by omega⟩
theorem in_X5_isRoom_X5 : ∀ w ∈ u_ws RX5 TX5 11, w ∈ wsX5_isRoom := by decide +kernel
set_option maxHeartbeats 4000000 in
set_option maxRecDepth 100000 in
theorem c_misRoom (l : Launch) (E : gE) (A : Nat → Prop) (g : Nat → Nat) (M : gM) (σ : Sg) (th : Int32) (hv : VS σ) (hw : MW E g M σ th) (x : Int32) : Met l yX5_isRoom wsX5_isRoom ({ frames := 1, cells := 0, slots := 0, locals := 22 } : Room) (Pm E [.ref (g 0), .int x] (mP E A g M)) (k2_QcV (.int (bI (decide (0 ≤ x ∧ x < nI (kR σ)))))) 0 0 (fun _ => False) := by
  refine m_entry (by decide) rfl (Nat.le_of_ble_eq_true rfl) ?_
  intro p e s m args below meth c hx hb hr hml hts hown hlocks hin hM hK ls hl
  have hl : lv_has ls 2 [(0, .ref (g 0)), (1, .int x)] := hl
  have hown : s.vm.findClass RX5 = some m.cls := hown
  obtain ⟨⟨hR9, hG9, hU9, hD9⟩, -⟩ := id hv
  obtain ⟨f1, m1, hf1⟩ := MW.house hw
  obtain ⟨f2, m2, hf2⟩ := MW.joined hw
  obtain ⟨f3, m3, hf3⟩ := MW.spooks hw
  obtain ⟨f4, m4, hf4⟩ := MW.people hw
  obtain ⟨f5, m5, hf5⟩ := MW.numbers hw
  refine lv_iload_n hx hb dX5_isRoom_0 rfl (lv_at hl 1 rfl) ?_
  refine lv_iconst (v := 0) hx hb dX5_isRoom_1 (by decide) ?_
  refine lv_aload_n hx hb dX5_isRoom_2 rfl (lv_at hl 0 rfl) ?_
  refine m_get hx hb hts in_X5_isRoom_X5 hown hK hM (MW.x hw) rfl 1 (by decide) (by decide +kernel) rfl dX5_isRoom_3 ?_
  refine lv_iconst (v := 1) hx hb dX5_isRoom_6 (by decide) ?_
  refine lv_isub hx hb dX5_isRoom_7 ?_
  refine m_cS 3 [.int x, .int 0, .int ((nI (kR σ)) - 1)] [] hx hb hml hown hts hK (c_isIn l E A g M x 0 ((nI (kR σ)) - 1)) gX5_isRoom_X5_isIn rfl rfl rfl (by decide +kernel) rfl ⟨Nat.le_of_ble_eq_true rfl, Nat.le_of_ble_eq_true rfl⟩ trivial hl.1 (Nat.le_of_ble_eq_true rfl) ⟨Nat.le_of_ble_eq_true rfl, Nat.le_of_ble_eq_true rfl⟩ rfl dX5_isRoom_8 ?_
  exact r_z hx hb hr hlocks dX5_isRoom_11 (by rw [decide_eq_decide.mpr (pred_lt (by omega) x)])
theorem c_misRoomY (l : Launch) (E : gE) (A : Nat → Prop) (g : Nat → Nat) (M : gM) (σ : Sg) (th : Int32) (hv : VS σ) (hw : MW E g M σ th) (k : Nat) (hk : k < kR σ) : Met l yX5_isRoom wsX5_isRoom ({ frames := 1, cells := 0, slots := 0, locals := 22 } : Room) (Pm E [.ref (g 0), .int (nI k)] (mP E A g M)) (k2_QcV (.int 1)) 0 0 (fun _ => False) := by
  have h := c_misRoom l E A g M σ th hv hw (nI k)
  obtain ⟨⟨hR9, hG9, hU9, hD9⟩, -⟩ := id hv
  rwa [show bI (decide (0 ≤ (nI k) ∧ (nI k) < nI (kR σ))) = 1 by rw [decide_eq_true ⟨nI_pos' (by omega), nI_lt hk (by omega)⟩]; rfl] at h
theorem c_misRoomN (l : Launch) (E : gE) (A : Nat → Prop) (g : Nat → Nat) (M : gM) (σ : Sg) (th : Int32) (hv : VS σ) (hw : MW E g M σ th) (x : Int32) (hx0 : ¬ (0 ≤ x ∧ x < nI (kR σ))) : Met l yX5_isRoom wsX5_isRoom ({ frames := 1, cells := 0, slots := 0, locals := 22 } : Room) (Pm E [.ref (g 0), .int x] (mP E A g M)) (k2_QcV (.int 0)) 0 0 (fun _ => False) := by
  have h := c_misRoom l E A g M σ th hv hw x
  obtain ⟨⟨hR9, hG9, hU9, hD9⟩, -⟩ := id hv
  rwa [show bI (decide (0 ≤ x ∧ x < nI (kR σ))) = 0 by rw [decide_eq_false hx0]; rfl] at h
theorem in_X5_isGhost_X5 : ∀ w ∈ u_ws RX5 TX5 11, w ∈ wsX5_isGhost := by decide +kernel
set_option maxHeartbeats 4000000 in
set_option maxRecDepth 100000 in
theorem c_misGhost (l : Launch) (E : gE) (A : Nat → Prop) (g : Nat → Nat) (M : gM) (σ : Sg) (th : Int32) (hv : VS σ) (hw : MW E g M σ th) (x : Int32) : Met l yX5_isGhost wsX5_isGhost ({ frames := 1, cells := 0, slots := 0, locals := 22 } : Room) (Pm E [.ref (g 0), .int x] (mP E A g M)) (k2_QcV (.int (bI (decide (0 ≤ x ∧ x < nI (kG σ)))))) 0 0 (fun _ => False) := by
  refine m_entry (by decide) rfl (Nat.le_of_ble_eq_true rfl) ?_
  intro p e s m args below meth c hx hb hr hml hts hown hlocks hin hM hK ls hl
  have hl : lv_has ls 2 [(0, .ref (g 0)), (1, .int x)] := hl
  have hown : s.vm.findClass RX5 = some m.cls := hown
  obtain ⟨⟨hR9, hG9, hU9, hD9⟩, -⟩ := id hv
  obtain ⟨f1, m1, hf1⟩ := MW.house hw
  obtain ⟨f2, m2, hf2⟩ := MW.joined hw
  obtain ⟨f3, m3, hf3⟩ := MW.spooks hw
  obtain ⟨f4, m4, hf4⟩ := MW.people hw
  obtain ⟨f5, m5, hf5⟩ := MW.numbers hw
  refine lv_iload_n hx hb dX5_isGhost_0 rfl (lv_at hl 1 rfl) ?_
  refine lv_iconst (v := 0) hx hb dX5_isGhost_1 (by decide) ?_
  refine lv_aload_n hx hb dX5_isGhost_2 rfl (lv_at hl 0 rfl) ?_
  refine m_get hx hb hts in_X5_isGhost_X5 hown hK hM (MW.x hw) rfl 3 (by decide) (by decide +kernel) rfl dX5_isGhost_3 ?_
  refine lv_iconst (v := 1) hx hb dX5_isGhost_6 (by decide) ?_
  refine lv_isub hx hb dX5_isGhost_7 ?_
  refine m_cS 3 [.int x, .int 0, .int ((nI (kG σ)) - 1)] [] hx hb hml hown hts hK (c_isIn l E A g M x 0 ((nI (kG σ)) - 1)) gX5_isGhost_X5_isIn rfl rfl rfl (by decide +kernel) rfl ⟨Nat.le_of_ble_eq_true rfl, Nat.le_of_ble_eq_true rfl⟩ trivial hl.1 (Nat.le_of_ble_eq_true rfl) ⟨Nat.le_of_ble_eq_true rfl, Nat.le_of_ble_eq_true rfl⟩ rfl dX5_isGhost_8 ?_
  exact r_z hx hb hr hlocks dX5_isGhost_11 (by rw [decide_eq_decide.mpr (pred_lt (by omega) x)])
theorem c_misGhostY (l : Launch) (E : gE) (A : Nat → Prop) (g : Nat → Nat) (M : gM) (σ : Sg) (th : Int32) (hv : VS σ) (hw : MW E g M σ th) (k : Nat) (hk : k < kG σ) : Met l yX5_isGhost wsX5_isGhost ({ frames := 1, cells := 0, slots := 0, locals := 22 } : Room) (Pm E [.ref (g 0), .int (nI k)] (mP E A g M)) (k2_QcV (.int 1)) 0 0 (fun _ => False) := by
  have h := c_misGhost l E A g M σ th hv hw (nI k)
  obtain ⟨⟨hR9, hG9, hU9, hD9⟩, -⟩ := id hv
  rwa [show bI (decide (0 ≤ (nI k) ∧ (nI k) < nI (kG σ))) = 1 by rw [decide_eq_true ⟨nI_pos' (by omega), nI_lt hk (by omega)⟩]; rfl] at h
theorem c_misGhostN (l : Launch) (E : gE) (A : Nat → Prop) (g : Nat → Nat) (M : gM) (σ : Sg) (th : Int32) (hv : VS σ) (hw : MW E g M σ th) (x : Int32) (hx0 : ¬ (0 ≤ x ∧ x < nI (kG σ))) : Met l yX5_isGhost wsX5_isGhost ({ frames := 1, cells := 0, slots := 0, locals := 22 } : Room) (Pm E [.ref (g 0), .int x] (mP E A g M)) (k2_QcV (.int 0)) 0 0 (fun _ => False) := by
  have h := c_misGhost l E A g M σ th hv hw x
  obtain ⟨⟨hR9, hG9, hU9, hD9⟩, -⟩ := id hv
  rwa [show bI (decide (0 ≤ x ∧ x < nI (kG σ))) = 0 by rw [decide_eq_false hx0]; rfl] at h
theorem in_X5_isGuest_X5 : ∀ w ∈ u_ws RX5 TX5 11, w ∈ wsX5_isGuest := by decide +kernel
set_option maxHeartbeats 4000000 in
set_option maxRecDepth 100000 in
theorem c_misGuest (l : Launch) (E : gE) (A : Nat → Prop) (g : Nat → Nat) (M : gM) (σ : Sg) (th : Int32) (hv : VS σ) (hw : MW E g M σ th) (x : Int32) : Met l yX5_isGuest wsX5_isGuest ({ frames := 1, cells := 0, slots := 0, locals := 22 } : Room) (Pm E [.ref (g 0), .int x] (mP E A g M)) (k2_QcV (.int (bI (decide (0 ≤ x ∧ x < nI (kU σ)))))) 0 0 (fun _ => False) := by
  refine m_entry (by decide) rfl (Nat.le_of_ble_eq_true rfl) ?_
  intro p e s m args below meth c hx hb hr hml hts hown hlocks hin hM hK ls hl
  have hl : lv_has ls 2 [(0, .ref (g 0)), (1, .int x)] := hl
  have hown : s.vm.findClass RX5 = some m.cls := hown
  obtain ⟨⟨hR9, hG9, hU9, hD9⟩, -⟩ := id hv
  obtain ⟨f1, m1, hf1⟩ := MW.house hw
  obtain ⟨f2, m2, hf2⟩ := MW.joined hw
  obtain ⟨f3, m3, hf3⟩ := MW.spooks hw
  obtain ⟨f4, m4, hf4⟩ := MW.people hw
  obtain ⟨f5, m5, hf5⟩ := MW.numbers hw
  refine lv_iload_n hx hb dX5_isGuest_0 rfl (lv_at hl 1 rfl) ?_
  refine lv_iconst (v := 0) hx hb dX5_isGuest_1 (by decide) ?_
  refine lv_aload_n hx hb dX5_isGuest_2 rfl (lv_at hl 0 rfl) ?_
  refine m_get hx hb hts in_X5_isGuest_X5 hown hK hM (MW.x hw) rfl 4 (by decide) (by decide +kernel) rfl dX5_isGuest_3 ?_
  refine lv_iconst (v := 1) hx hb dX5_isGuest_6 (by decide) ?_
  refine lv_isub hx hb dX5_isGuest_7 ?_
  refine m_cS 3 [.int x, .int 0, .int ((nI (kU σ)) - 1)] [] hx hb hml hown hts hK (c_isIn l E A g M x 0 ((nI (kU σ)) - 1)) gX5_isGuest_X5_isIn rfl rfl rfl (by decide +kernel) rfl ⟨Nat.le_of_ble_eq_true rfl, Nat.le_of_ble_eq_true rfl⟩ trivial hl.1 (Nat.le_of_ble_eq_true rfl) ⟨Nat.le_of_ble_eq_true rfl, Nat.le_of_ble_eq_true rfl⟩ rfl dX5_isGuest_8 ?_
  exact r_z hx hb hr hlocks dX5_isGuest_11 (by rw [decide_eq_decide.mpr (pred_lt (by omega) x)])
theorem c_misGuestY (l : Launch) (E : gE) (A : Nat → Prop) (g : Nat → Nat) (M : gM) (σ : Sg) (th : Int32) (hv : VS σ) (hw : MW E g M σ th) (k : Nat) (hk : k < kU σ) : Met l yX5_isGuest wsX5_isGuest ({ frames := 1, cells := 0, slots := 0, locals := 22 } : Room) (Pm E [.ref (g 0), .int (nI k)] (mP E A g M)) (k2_QcV (.int 1)) 0 0 (fun _ => False) := by
  have h := c_misGuest l E A g M σ th hv hw (nI k)
  obtain ⟨⟨hR9, hG9, hU9, hD9⟩, -⟩ := id hv
  rwa [show bI (decide (0 ≤ (nI k) ∧ (nI k) < nI (kU σ))) = 1 by rw [decide_eq_true ⟨nI_pos' (by omega), nI_lt hk (by omega)⟩]; rfl] at h
theorem c_misGuestN (l : Launch) (E : gE) (A : Nat → Prop) (g : Nat → Nat) (M : gM) (σ : Sg) (th : Int32) (hv : VS σ) (hw : MW E g M σ th) (x : Int32) (hx0 : ¬ (0 ≤ x ∧ x < nI (kU σ))) : Met l yX5_isGuest wsX5_isGuest ({ frames := 1, cells := 0, slots := 0, locals := 22 } : Room) (Pm E [.ref (g 0), .int x] (mP E A g M)) (k2_QcV (.int 0)) 0 0 (fun _ => False) := by
  have h := c_misGuest l E A g M σ th hv hw x
  obtain ⟨⟨hR9, hG9, hU9, hD9⟩, -⟩ := id hv
  rwa [show bI (decide (0 ≤ x ∧ x < nI (kU σ))) = 0 by rw [decide_eq_false hx0]; rfl] at h
/-- the lowest bit's number -/
def lowN (b : Nat) : Nat → Nat → Nat
  | lo, 0 => lo
  | lo, n + 1 => if b.testBit lo then lo else lowN b (lo + 1) n
theorem ntz_low : ∀ b, b < 1024 → b ≠ 0 → ntz (nI b) = nI (lowN b 0 10) := by decide +kernel
def nxtN (b r : Nat) : Nat := if b = 0 then r else if b / 2 ^ (r + 1) = 0 then lowN b 0 10 else r + 1 + lowN (b / 2 ^ (r + 1)) 0 10
def fstN (b : Nat) : Nat → Nat → Option Nat
  | _, 0 => none
  | lo, n + 1 => if b.testBit lo then some lo else fstN b (lo + 1) n
def nxtM (b r : Nat) : Nat := match fstN b (r + 1) (9 - r) with
  | some j => j
  | none => match fstN b 0 10 with
    | some j => j
    | none => r
theorem nxt_MN : ∀ b, b < 1024 → ∀ r, r < 10 → nxtM b r = nxtN b r := by decide +kernel
theorem fstB_N {b : Nat} (hb : b < 1024) : ∀ n lo, lo + n ≤ 10 → fstB (nI b) lo n = fstN b lo n
  | 0, _, _ => rfl
  | n + 1, lo, h => by rw [fstB, fstN, bit_nat b hb lo (by omega), fstB_N hb n (lo + 1) (by omega)]
theorem nxt_N {b r : Nat} (hb : b < 1024) (hr : r < 10) : nxt (nI b) r = nxtN b r := by
  rw [← nxt_MN b hb r hr, nxt, nxtM, fstB_N hb _ _ (by omega), fstB_N hb _ _ (by omega)]
  cases fstN b (r + 1) (9 - r) <;> cases fstN b 0 10 <;> rfl
theorem nI_eq0 {b : Nat} (hb : b < 2 ^ 31) : nI b = 0 ↔ b = 0 := by
  rw [show (0 : Int32) = nI 0 from rfl]
  exact nI_eq hb (by decide)
theorem shr_nI {b k : Nat} (hb : b < 2 ^ 31) (hk : k < 32) : nI b >>> (nI k &&& 31) = nI (b / 2 ^ k) := by
  refine pk_shrN hb _ k ?_
  have h : ∀ k, k < 32 → ((nI k &&& 31).toBitVec.smod 32).toNat = k := by decide +kernel
  exact h k hk
theorem VS.bits2 {σ : Sg} (hv : VS σ) (r : Nat) : ∃ b, b < 1024 ∧ b < 2 ^ kR σ ∧ sJn σ r = nI b := by
  obtain ⟨b, hb, e⟩ := hv.2.2.2.2 r
  exact ⟨b, Nat.lt_of_lt_of_le hb (Nat.pow_le_pow_right (by decide) hv.1.1), hb, e⟩
theorem lowN_lt {b n : Nat} : ∀ k lo, (∃ j, lo ≤ j ∧ j < lo + k ∧ b.testBit j = true) → (∀ j, b.testBit j = true → j < n) → lowN b lo k < n
  | 0, lo, ⟨j, h1, h2, _⟩, _ => absurd h2 (by omega)
  | k + 1, lo, ⟨j, h1, h2, h3⟩, hn => by
    rw [lowN]
    split
    · rename_i h; exact hn lo h
    · rename_i h
      refine lowN_lt k (lo + 1) ⟨j, ?_, by omega, h3⟩ hn
      rcases Nat.lt_or_ge lo j with q | q
      · omega
      · have e : j = lo := by omega
        subst e; exact absurd h3 h
theorem fstB_lt {b : Int32} : ∀ n lo j, fstB b lo n = some j → j < lo + n ∧ bitAt b j = true
  | 0, lo, j, h => by cases h
  | n + 1, lo, j, h => by
    rw [fstB] at h
    split at h
    · cases h; exact ⟨by omega, by assumption⟩
    · have := fstB_lt n (lo + 1) j h
      exact ⟨by omega, this.2⟩
theorem nxt_lt {σ : Sg} (hv : VS σ) {i r : Nat} (hr : r < kR σ) : nxt (sJn σ i) r < kR σ := by
  have key : ∀ n lo j, lo + n ≤ 10 → fstB (sJn σ i) lo n = some j → j < kR σ := by
    intro n lo j hl h
    obtain ⟨h1, h2⟩ := fstB_lt n lo j h
    rcases Nat.lt_or_ge j (kR σ) with q | q
    · exact q
    · rw [VS.bits hv i j q (by omega)] at h2; cases h2
  have hR9 := hv.1.1
  rw [nxt]
  split
  · rename_i j h; exact key _ _ _ (by omega) h
  · split
    · rename_i j h; exact key _ _ _ (by omega) h
    · exact hr
theorem VS.gh {σ : Sg} (hv : VS σ) {i : Nat} (hi : i < kG σ) : ∃ r w, r < kR σ ∧ w < 12 ∧ sGh σ i 0 = nI r ∧ sGh σ i 2 = nI w := hv.2.2.1 i hi
theorem plN_lt {σ : Sg} (hv : VS σ) {i : Nat} (hi : i < kG σ) : ∀ k, plN σ i k < kR σ
  | 0 => by
    obtain ⟨r, w, h1, h2, h3, h4⟩ := VS.gh hv hi
    have hR9 := hv.1.1
    rw [plN, h3, nI_clamp (by omega)]
    exact h1
  | k + 1 => by rw [plN]; exact nxt_lt hv (plN_lt hv hi k)
theorem in_X5_next_X5 : ∀ w ∈ u_ws RX5 TX5 11, w ∈ wsX5_next := by decide +kernel
set_option maxHeartbeats 4000000 in
set_option maxRecDepth 100000 in
theorem c_mnext (l : Launch) (E : gE) (A : Nat → Prop) (g : Nat → Nat) (M : gM) (σ : Sg) (th : Int32) (hv : VS σ) (hw : MW E g M σ th) (r : Nat) (hr9 : r < kR σ) : Met l yX5_next wsX5_next ({ frames := 1, cells := 0, slots := 0, locals := 21 } : Room) (Pm E [.ref (g 0), .int (nI r)] (mP E A g M)) (k2_QcV (.int (nI (nxt (sJn σ r) r)))) 0 0 (fun _ => False) := by
  refine m_entry (by decide) rfl (Nat.le_of_ble_eq_true rfl) ?_
  intro p e s m args below meth c hx hb hr hml hts hown hlocks hin hM hK ls hl
  have hl : lv_has ls 3 [(0, .ref (g 0)), (1, .int (nI r))] := hl
  have hown : s.vm.findClass RX5 = some m.cls := hown
  obtain ⟨⟨hR9, hG9, hU9, hD9⟩, -⟩ := id hv
  obtain ⟨f1, m1, hf1⟩ := MW.house hw
  obtain ⟨f2, m2, hf2⟩ := MW.joined hw
  obtain ⟨f3, m3, hf3⟩ := MW.spooks hw
  obtain ⟨f4, m4, hf4⟩ := MW.people hw
  obtain ⟨f5, m5, hf5⟩ := MW.numbers hw
  obtain ⟨b, hb9, hb8, eb⟩ := VS.bits2 hv r
  refine lv_aload_n hx hb dX5_next_0 rfl (lv_at hl 0 rfl) ?_
  refine m_get hx hb hts in_X5_next_X5 hown hK hM (MW.x hw) rfl 6 (by decide) (by decide +kernel) rfl dX5_next_1 ?_
  refine lv_iload_n hx hb dX5_next_4 rfl (lv_at hl 1 rfl) ?_
  refine m_iald (v := nI b) hx hb hK hM m2 (ix_ok (by omega)) (rd_ok (by omega) ((hf2 r (by omega)).trans eb)) dX5_next_5 ?_
  refine lv_if_ne (tgt := 11) hx hb dX5_next_6 (by decide) (fun c6 => ?_) (fun c6 => ?_)
  · refine lv_aload_n hx hb dX5_next_11 rfl (lv_at hl 0 rfl) ?_
    refine m_get hx hb hts in_X5_next_X5 hown hK hM (MW.x hw) rfl 6 (by decide) (by decide +kernel) rfl dX5_next_12 ?_
    refine lv_iload_n hx hb dX5_next_15 rfl (lv_at hl 1 rfl) ?_
    refine m_iald (v := nI b) hx hb hK hM m2 (ix_ok (by omega)) (rd_ok (by omega) ((hf2 r (by omega)).trans eb)) dX5_next_16 ?_
    refine lv_iload_n hx hb dX5_next_17 rfl (lv_at hl 1 rfl) ?_
    refine lv_iconst (v := 1) hx hb dX5_next_18 (by decide) ?_
    refine lv_iadd hx hb dX5_next_19 ?_
    rw [show ((nI r) + 1 : Int32) = nI (r + 1) from nI_1 r]
    refine lv_ishr hx hb dX5_next_20 ?_
    rw [show ((nI b) >>> ((nI (r + 1)) &&& 31) : Int32) = nI (b / 2 ^ (r + 1)) from shr_nI (by omega) (by omega)]
    refine lv_istore_n (lv' := [(2, .int (nI (b / 2 ^ (r + 1)))), (0, .ref (g 0)), (1, .int (nI r))]) hx hb dX5_next_21 rfl hl (by decide) rfl (fun ls hl => ?_)
    refine lv_iload_n hx hb dX5_next_22 rfl (lv_at hl 0 rfl) ?_
    refine lv_if_ne (tgt := 38) hx hb dX5_next_23 (by decide) (fun c23 => ?_) (fun c23 => ?_)
    · refine lv_iload_n hx hb dX5_next_38 rfl (lv_at hl 2 rfl) ?_
      refine lv_iconst (v := 1) hx hb dX5_next_39 (by decide) ?_
      refine lv_iadd hx hb dX5_next_40 ?_
      rw [show ((nI r) + 1 : Int32) = nI (r + 1) from nI_1 r]
      refine lv_iload_n hx hb dX5_next_41 rfl (lv_at hl 0 rfl) ?_
      refine m_cS 1 [.int (nI (b / 2 ^ (r + 1)))] [.int (nI (r + 1))] hx hb hml hown hts hK (c_ntz l E A g M (nI (b / 2 ^ (r + 1)))) gX5_next_J6_numberOfTrailingZeros_0f7a4 rfl rfl rfl (by decide +kernel) rfl ⟨Nat.le_of_ble_eq_true rfl, Nat.le_of_ble_eq_true rfl⟩ trivial hl.1 (Nat.le_of_ble_eq_true rfl) ⟨Nat.le_of_ble_eq_true rfl, Nat.le_of_ble_eq_true rfl⟩ rfl dX5_next_42 ?_
      refine lv_iadd hx hb dX5_next_45 ?_
      exact r_i hx hb hr hlocks dX5_next_46 (by rw [eb, nxt_N hb9 (by omega), nxtN, if_neg (fun q => c6 ((nI_eq0 (by omega)).mpr q)), if_neg (fun q => c23 ((nI_eq0 (Nat.lt_of_le_of_lt (Nat.div_le_self _ _) (by omega))).mpr q)),  ntz_low _ (Nat.lt_of_le_of_lt (Nat.div_le_self _ _) hb9) (fun q => c23 ((nI_eq0 (Nat.lt_of_le_of_lt (Nat.div_le_self _ _) (by omega))).mpr q)), nI_add])
    · refine lv_aload_n hx hb dX5_next_26 rfl (lv_at hl 1 rfl) ?_
      refine m_get hx hb hts in_X5_next_X5 hown hK hM (MW.x hw) rfl 6 (by decide) (by decide +kernel) rfl dX5_next_27 ?_
      refine lv_iload_n hx hb dX5_next_30 rfl (lv_at hl 2 rfl) ?_
      refine m_iald (v := nI b) hx hb hK hM m2 (ix_ok (by omega)) (rd_ok (by omega) ((hf2 r (by omega)).trans eb)) dX5_next_31 ?_
      refine m_cS 1 [.int (nI b)] [] hx hb hml hown hts hK (c_ntz l E A g M (nI b)) gX5_next_J6_numberOfTrailingZeros_0f7a4 rfl rfl rfl (by decide +kernel) rfl ⟨Nat.le_of_ble_eq_true rfl, Nat.le_of_ble_eq_true rfl⟩ trivial hl.1 (Nat.le_of_ble_eq_true rfl) ⟨Nat.le_of_ble_eq_true rfl, Nat.le_of_ble_eq_true rfl⟩ rfl dX5_next_32 ?_
      refine lv_goto (tgt := 46) hx hb dX5_next_35 (by decide) ?_
      exact r_i hx hb hr hlocks dX5_next_46 (by rw [eb, nxt_N hb9 (by omega), nxtN, if_neg (fun q => c6 ((nI_eq0 (by omega)).mpr q)), if_pos ((nI_eq0 (Nat.lt_of_le_of_lt (Nat.div_le_self _ _) (by omega))).mp c23), ntz_low b hb9 (fun q => c6 ((nI_eq0 (by omega)).mpr q))])
  · refine lv_iload_n hx hb dX5_next_9 rfl (lv_at hl 1 rfl) ?_
    exact r_i hx hb hr hlocks dX5_next_10 (by rw [eb, nxt_N hb9 (by omega), nxtN, if_pos ((nI_eq0 (by omega)).mp c6)])
set_option maxHeartbeats 4000000 in
set_option maxRecDepth 100000 in
theorem c_mplace (l : Launch) (E : gE) (A : Nat → Prop) (g : Nat → Nat) (M : gM) (σ : Sg) (th : Int32) (hv : VS σ) (hw : MW E g M σ th) (i j : Nat) (hi : i < kG σ) (hj : j < 12) : Met l yX5_place wsX5_place ({ frames := 2, cells := 0, slots := 0, locals := 43 } : Room) (Pm E [.ref (g 0), .int (nI i), .int (nI j)] (mP E A g M)) (k2_QcV (.int (plc σ i j))) 0 0 (fun _ => False) := by
  refine m_entry (by decide) rfl (Nat.le_of_ble_eq_true rfl) ?_
  intro p e s m args below meth c hx hb hr hml hts hown hlocks hin hM hK ls hl
  have hl : lv_has ls 5 [(0, .ref (g 0)), (1, .int (nI i)), (2, .int (nI j))] := hl
  have hown : s.vm.findClass RX5 = some m.cls := hown
  obtain ⟨⟨hR9, hG9, hU9, hD9⟩, -⟩ := id hv
  obtain ⟨f1, m1, hf1⟩ := MW.house hw
  obtain ⟨f2, m2, hf2⟩ := MW.joined hw
  obtain ⟨f3, m3, hf3⟩ := MW.spooks hw
  obtain ⟨f4, m4, hf4⟩ := MW.people hw
  obtain ⟨f5, m5, hf5⟩ := MW.numbers hw
  obtain ⟨r0, w0, hr0, hw0, e0, e2⟩ := VS.gh hv hi
  refine lv_iload_n hx hb dX5_place_0 rfl (lv_at hl 2 rfl) ?_
  refine lv_aload_n hx hb dX5_place_1 rfl (lv_at hl 0 rfl) ?_
  refine lv_iload_n hx hb dX5_place_2 rfl (lv_at hl 1 rfl) ?_
  refine lv_iconst (v := 2) hx hb dX5_place_3 (by decide) ?_
  refine m_cV 2 [.int (nI i), .int 2] [.int (nI j)] hx hb hml hown hts hK (c_sp l E A g M σ th hw i 2 (by omega) (by omega)) gX5_place_X5_sp rfl rfl rfl (by decide +kernel) rfl ⟨Nat.le_of_ble_eq_true rfl, Nat.le_of_ble_eq_true rfl⟩ hM (MW.x hw) rfl rfl hM hl.1 (Nat.le_of_ble_eq_true rfl) ⟨Nat.le_of_ble_eq_true rfl, Nat.le_of_ble_eq_true rfl⟩ rfl dX5_place_4 ?_
  refine lv_icmp_lt (tgt := 20) hx hb dX5_place_7 (by decide) (fun c7 => ?_) (fun c7 => ?_)
  · refine lv_iconst (v := (-1)) hx hb dX5_place_20 (by decide) ?_
    exact r_i hx hb hr hlocks dX5_place_21 (by rw [plc, if_neg (fun q => absurd q.1 (Int32.not_le.mpr c7))])
  · refine lv_iload_n hx hb dX5_place_10 rfl (lv_at hl 2 rfl) ?_
    refine lv_aload_n hx hb dX5_place_11 rfl (lv_at hl 0 rfl) ?_
    refine lv_iload_n hx hb dX5_place_12 rfl (lv_at hl 1 rfl) ?_
    refine lv_iconst (v := 3) hx hb dX5_place_13 (by decide) ?_
    refine m_cV 2 [.int (nI i), .int 3] [.int (nI j)] hx hb hml hown hts hK (c_sp l E A g M σ th hw i 3 (by omega) (by omega)) gX5_place_X5_sp rfl rfl rfl (by decide +kernel) rfl ⟨Nat.le_of_ble_eq_true rfl, Nat.le_of_ble_eq_true rfl⟩ hM (MW.x hw) rfl rfl hM hl.1 (Nat.le_of_ble_eq_true rfl) ⟨Nat.le_of_ble_eq_true rfl, Nat.le_of_ble_eq_true rfl⟩ rfl dX5_place_14 ?_
    refine lv_icmp_lt (tgt := 22) hx hb dX5_place_17 (by decide) (fun c17 => ?_) (fun c17 => ?_)
    · refine lv_aload_n hx hb dX5_place_22 rfl (lv_at hl 0 rfl) ?_
      refine lv_iload_n hx hb dX5_place_23 rfl (lv_at hl 1 rfl) ?_
      refine lv_iconst (v := 0) hx hb dX5_place_24 (by decide) ?_
      refine m_cV 2 [.int (nI i), .int 0] [] hx hb hml hown hts hK (c_sp l E A g M σ th hw i 0 (by omega) (by omega)) gX5_place_X5_sp rfl rfl rfl (by decide +kernel) rfl ⟨Nat.le_of_ble_eq_true rfl, Nat.le_of_ble_eq_true rfl⟩ hM (MW.x hw) rfl rfl hM hl.1 (Nat.le_of_ble_eq_true rfl) ⟨Nat.le_of_ble_eq_true rfl, Nat.le_of_ble_eq_true rfl⟩ rfl dX5_place_25 ?_
      refine lv_istore_n (lv' := [(3, .int (sGh σ i 0)), (0, .ref (g 0)), (1, .int (nI i)), (2, .int (nI j))]) hx hb dX5_place_28 rfl hl (by decide) rfl (fun ls hl => ?_)
      refine lv_aload_n hx hb dX5_place_29 rfl (lv_at hl 1 rfl) ?_
      refine lv_iload_n hx hb dX5_place_30 rfl (lv_at hl 2 rfl) ?_
      refine lv_iconst (v := 2) hx hb dX5_place_31 (by decide) ?_
      refine m_cV 2 [.int (nI i), .int 2] [] hx hb hml hown hts hK (c_sp l E A g M σ th hw i 2 (by omega) (by omega)) gX5_place_X5_sp rfl rfl rfl (by decide +kernel) rfl ⟨Nat.le_of_ble_eq_true rfl, Nat.le_of_ble_eq_true rfl⟩ hM (MW.x hw) rfl rfl hM hl.1 (Nat.le_of_ble_eq_true rfl) ⟨Nat.le_of_ble_eq_true rfl, Nat.le_of_ble_eq_true rfl⟩ rfl dX5_place_32 ?_
      rw [show (sGh σ i 2 : Int32) = nI w0 from e2]
      refine lv_istore (lv' := [(4, .int (nI w0)), (3, .int (sGh σ i 0)), (0, .ref (g 0)), (1, .int (nI i)), (2, .int (nI j))]) hx hb dX5_place_35 hl (by decide) rfl (fun ls hl => ?_)
      have lp37 : ∀ (n37 k : Nat), n37 + k = j → ∀ x3 : Int32, x3 = nI (plN σ i (k - w0)) → w0 ≤ k → ∀ ls : Array Slot, lv_has ls 5 [(4, .int (nI k)), (3, .int x3), (0, .ref (g 0)), (1, .int (nI i)), (2, .int (nI j))] → W p l e ({ frames := 2, cells := 0, slots := 0, locals := 43 } : Room) s m args below meth c s.heap [] 0 0 (MQ below (k2_QcV (.int (plc σ i j))) args s 0 0 (fun _ => False)) (F0 m 37 ls []) := by
        intro n37
        induction n37 with
        | zero =>
          intro k hi37 x3 ex3 hge ls hl
          obtain rfl : j = k := by omega
          subst ex3
          refine lv_iload hx hb dX5_place_37 (lv_at hl 0 rfl) ?_
          refine lv_iload_n hx hb dX5_place_39 rfl (lv_at hl 4 rfl) ?_
          refine lv_icmp_ge (tgt := 55) hx hb dX5_place_40 (by decide) (fun c40 => ?_) (fun c9 => absurd (Int32.le_refl _) c9)
          refine lv_iload_n hx hb dX5_place_55 rfl (lv_at hl 1 rfl) ?_
          exact r_i hx hb hr hlocks dX5_place_56 (by rw [plc, if_pos ⟨Int32.not_lt.mp c7, c17⟩, e2, nI_clamp (by omega)])
        | succ n37 ih37 =>
          intro k hi37 x3 ex3 hge ls hl
          have hlt37 : k < j := by omega
          subst ex3
          refine lv_iload hx hb dX5_place_37 (lv_at hl 0 rfl) ?_
          refine lv_iload_n hx hb dX5_place_39 rfl (lv_at hl 4 rfl) ?_
          refine lv_icmp_ge (tgt := 55) hx hb dX5_place_40 (by decide) (fun c9 => absurd c9 (nI_ge hlt37 (by omega))) (fun c40 => ?_)
          refine lv_aload_n hx hb dX5_place_43 rfl (lv_at hl 2 rfl) ?_
          refine lv_iload_n hx hb dX5_place_44 rfl (lv_at hl 1 rfl) ?_
          refine m_cV 1 [.int (nI (plN σ i (k - w0)))] [] hx hb hml hown hts hK (c_mnext l E A g M σ th hv hw (plN σ i (k - w0)) (by first | omega | exact plN_lt hv hi _)) gX5_place_X5_next rfl rfl rfl (by decide +kernel) rfl ⟨Nat.le_of_ble_eq_true rfl, Nat.le_of_ble_eq_true rfl⟩ hM (MW.x hw) rfl rfl hM hl.1 (Nat.le_of_ble_eq_true rfl) ⟨Nat.le_of_ble_eq_true rfl, Nat.le_of_ble_eq_true rfl⟩ rfl dX5_place_45 ?_
          refine lv_istore_n (lv' := [(3, .int (nI (nxt (sJn σ (plN σ i (k - w0))) (plN σ i (k - w0))))), (4, .int (nI k)), (0, .ref (g 0)), (1, .int (nI i)), (2, .int (nI j))]) hx hb dX5_place_48 rfl hl (by decide) rfl (fun ls hl => ?_)
          refine lv_iinc (v := nI (k + 1)) (lv' := [(4, .int (nI (k + 1))), (3, .int (nI (nxt (sJn σ (plN σ i (k - w0))) (plN σ i (k - w0))))), (0, .ref (g 0)), (1, .int (nI i)), (2, .int (nI j))]) hx hb dX5_place_49 hl (k := 1) rfl (m_inc _) (by decide) rfl (fun ls hl => ?_)
          refine lv_goto (tgt := 37) hx hb dX5_place_52 (by decide) ?_
          exact ih37 (k + 1) (by omega) _ (by rw [show k + 1 - w0 = (k - w0) + 1 by omega]; rfl) (Nat.le_succ_of_le hge) ls (lv_sub hl [0, 1, 2, 3, 4] rfl)
      exact lp37 (j - w0) w0 (by have := (nI_leI (a := w0) (b := j) (by omega) (by omega)).mp (Int32.not_lt.mp (e2 ▸ c7)); omega) _ (by rw [Nat.sub_self, plN, e0, nI_clamp (by omega)]) (Nat.le_refl _) ls (lv_sub hl [0, 1, 2, 3, 4] rfl)
    · refine lv_iconst (v := (-1)) hx hb dX5_place_20 (by decide) ?_
      exact r_i hx hb hr hlocks dX5_place_21 (by rw [plc, if_neg (fun q => absurd q.2 c17)])
