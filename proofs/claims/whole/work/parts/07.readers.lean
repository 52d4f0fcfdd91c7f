theorem c_size (l : Launch) (E : gE) (A : Nat → Prop) (g : Nat → Nat) (M : gM) {tl te base n : Nat} (hL : LW E g M tl te base n) : Met l yJx4a65c_size_8abf5 wsJx4a65c_size_8abf5 ({ frames := 0, cells := 0, slots := 0, locals := 0 } : Room) (Pm E [.ref (g tl)] (mP E A g M)) (k2_QcV (.int (nI n))) 0 0 (fun _ => False) := by
  obtain ⟨mc, el, h, -⟩ := hL
  exact c_size0 l E A g M tl mc el (nI n) h
theorem c_get (l : Launch) (E : gE) (A : Nat → Prop) (g : Nat → Nat) (M : gM) {tl te base n : Nat} (hL : LW E g M tl te base n) (hn : n ≤ 15) (i : Nat) (hi : i < n) : Met l yJx4a65c_get_915e3 wsJx4a65c_get_915e3 ({ frames := 2, cells := 0, slots := 0, locals := 43 } : Room) (Pm E [.ref (g tl), .int (nI i)] (mP E A g M)) (k2_QcV (.ref (g (base + i)))) 0 0 (fun _ => False) := by
  obtain ⟨mc, el, h, -, h1⟩ := hL
  obtain ⟨rfl, f, h2, h3⟩ := h1 (by omega)
  exact c_get0 l E A g M tl te _ mc n f h h2 i _ hi (by split <;> omega) (by split <;> omega) (h3 i hi)
theorem in_X4_isRoom_X4 : ∀ w ∈ u_ws RX4 TX4 8, w ∈ wsX4_isRoom := by decide +kernel
set_option maxHeartbeats 4000000 in
set_option maxRecDepth 100000 in
theorem c_isRoom (l : Launch) (E : gE) (A : Nat → Prop) (g : Nat → Nat) (M : gM) (σ : Sg) (hv : VS σ) (hw : CW E g M σ) (x : Int32) : Met l yX4_isRoom wsX4_isRoom ({ frames := 1, cells := 0, slots := 0, locals := 20 } : Room) (Pm E [.ref (g 0), .int x] (mP E A g M)) (k2_QcV (.int (bI (decide (0 ≤ x ∧ x < nI (kR σ)))))) 0 0 (fun _ => False) := by
  refine m_entry (by decide) rfl (Nat.le_of_ble_eq_true rfl) ?_
  intro p e s m args below meth c hx hb hr hml hts hown hlocks hin hM hK ls hl
  have hl : lv_has ls 2 [(0, .ref (g 0)), (1, .int x)] := hl
  have hown : s.vm.findClass RX4 = some m.cls := hown
  obtain ⟨⟨hR9, hG9, hU9, hD9⟩, -⟩ := id hv
  obtain ⟨mc1, el1, h1, -⟩ := CW.LR hw
  obtain ⟨mc2, el2, h2, -⟩ := CW.LG hw
  obtain ⟨mc3, el3, h3, -⟩ := CW.LU hw
  refine lv_iload_n hx hb dX4_isRoom_0 rfl (lv_at hl 1 rfl) ?_
  refine lv_if_lt (tgt := 19) hx hb dX4_isRoom_1 (by decide) (fun c1 => ?_) (fun c1 => ?_)
  · refine lv_iconst (v := 0) hx hb dX4_isRoom_19 (by decide) ?_
    exact r_z hx hb hr hlocks dX4_isRoom_20 (bI_zero (decide_eq_false (by first | omega | (simp only [Int32.le_iff_toInt_le, Int32.lt_iff_toInt_lt, ← Int32.toInt_inj] at c1 ⊢; omega))))
  · refine lv_iload_n hx hb dX4_isRoom_4 rfl (lv_at hl 1 rfl) ?_
    refine lv_aload_n hx hb dX4_isRoom_5 rfl (lv_at hl 0 rfl) ?_
    refine m_get hx hb hts in_X4_isRoom_X4 hown hK hM (CW.x hw) rfl 0 (by decide) (by decide +kernel) rfl dX4_isRoom_6 ?_
    refine m_cV 0 [] [.int x] hx hb hml hown hts hK (c_size l E A g M (CW.LR hw)) gX4_isRoom_Jx4a65c_size_8abf5 rfl rfl rfl (by decide +kernel) rfl ⟨Nat.le_of_ble_eq_true rfl, Nat.le_of_ble_eq_true rfl⟩ hM h1 rfl rfl hM hl.1 (Nat.le_of_ble_eq_true rfl) ⟨Nat.le_of_ble_eq_true rfl, Nat.le_of_ble_eq_true rfl⟩ rfl dX4_isRoom_9 ?_
    refine lv_icmp_ge (tgt := 19) hx hb dX4_isRoom_12 (by decide) (fun c12 => ?_) (fun c12 => ?_)
    · refine lv_iconst (v := 0) hx hb dX4_isRoom_19 (by decide) ?_
      exact r_z hx hb hr hlocks dX4_isRoom_20 (bI_zero (decide_eq_false (by first | omega | (simp only [Int32.le_iff_toInt_le, Int32.lt_iff_toInt_lt, ← Int32.toInt_inj] at c1 c12 ⊢; omega))))
    · refine lv_iconst (v := 1) hx hb dX4_isRoom_15 (by decide) ?_
      refine lv_goto (tgt := 20) hx hb dX4_isRoom_16 (by decide) ?_
      exact r_z hx hb hr hlocks dX4_isRoom_20 (bI_one (decide_eq_true (by first | omega | (simp only [Int32.le_iff_toInt_le, Int32.lt_iff_toInt_lt, ← Int32.toInt_inj] at c1 c12 ⊢; omega))))
theorem c_isRoomY (l : Launch) (E : gE) (A : Nat → Prop) (g : Nat → Nat) (M : gM) (σ : Sg) (hv : VS σ) (hw : CW E g M σ) (k : Nat) (hk : k < kR σ) : Met l yX4_isRoom wsX4_isRoom ({ frames := 1, cells := 0, slots := 0, locals := 20 } : Room) (Pm E [.ref (g 0), .int (nI k)] (mP E A g M)) (k2_QcV (.int 1)) 0 0 (fun _ => False) := by
  have h := c_isRoom l E A g M σ hv hw (nI k)
  obtain ⟨⟨hR9, hG9, hU9, hD9⟩, -⟩ := id hv
  rwa [show bI (decide (0 ≤ nI k ∧ nI k < nI (kR σ))) = 1 by rw [decide_eq_true ⟨nI_pos' (by omega), nI_lt hk (by omega)⟩]; rfl] at h
theorem in_X4_isGhost_X4 : ∀ w ∈ u_ws RX4 TX4 8, w ∈ wsX4_isGhost := by decide +kernel
set_option maxHeartbeats 4000000 in
set_option maxRecDepth 100000 in
theorem c_isGhost (l : Launch) (E : gE) (A : Nat → Prop) (g : Nat → Nat) (M : gM) (σ : Sg) (hv : VS σ) (hw : CW E g M σ) (x : Int32) : Met l yX4_isGhost wsX4_isGhost ({ frames := 1, cells := 0, slots := 0, locals := 20 } : Room) (Pm E [.ref (g 0), .int x] (mP E A g M)) (k2_QcV (.int (bI (decide (0 ≤ x ∧ x < nI (kG σ)))))) 0 0 (fun _ => False) := by
  refine m_entry (by decide) rfl (Nat.le_of_ble_eq_true rfl) ?_
  intro p e s m args below meth c hx hb hr hml hts hown hlocks hin hM hK ls hl
  have hl : lv_has ls 2 [(0, .ref (g 0)), (1, .int x)] := hl
  have hown : s.vm.findClass RX4 = some m.cls := hown
  obtain ⟨⟨hR9, hG9, hU9, hD9⟩, -⟩ := id hv
  obtain ⟨mc1, el1, h1, -⟩ := CW.LR hw
  obtain ⟨mc2, el2, h2, -⟩ := CW.LG hw
  obtain ⟨mc3, el3, h3, -⟩ := CW.LU hw
  refine lv_iload_n hx hb dX4_isGhost_0 rfl (lv_at hl 1 rfl) ?_
  refine lv_if_lt (tgt := 19) hx hb dX4_isGhost_1 (by decide) (fun c1 => ?_) (fun c1 => ?_)
  · refine lv_iconst (v := 0) hx hb dX4_isGhost_19 (by decide) ?_
    exact r_z hx hb hr hlocks dX4_isGhost_20 (bI_zero (decide_eq_false (by first | omega | (simp only [Int32.le_iff_toInt_le, Int32.lt_iff_toInt_lt, ← Int32.toInt_inj] at c1 ⊢; omega))))
  · refine lv_iload_n hx hb dX4_isGhost_4 rfl (lv_at hl 1 rfl) ?_
    refine lv_aload_n hx hb dX4_isGhost_5 rfl (lv_at hl 0 rfl) ?_
    refine m_get hx hb hts in_X4_isGhost_X4 hown hK hM (CW.x hw) rfl 1 (by decide) (by decide +kernel) rfl dX4_isGhost_6 ?_
    refine m_cV 0 [] [.int x] hx hb hml hown hts hK (c_size l E A g M (CW.LG hw)) gX4_isGhost_Jx4a65c_size_8abf5 rfl rfl rfl (by decide +kernel) rfl ⟨Nat.le_of_ble_eq_true rfl, Nat.le_of_ble_eq_true rfl⟩ hM h2 rfl rfl hM hl.1 (Nat.le_of_ble_eq_true rfl) ⟨Nat.le_of_ble_eq_true rfl, Nat.le_of_ble_eq_true rfl⟩ rfl dX4_isGhost_9 ?_
    refine lv_icmp_ge (tgt := 19) hx hb dX4_isGhost_12 (by decide) (fun c12 => ?_) (fun c12 => ?_)
    · refine lv_iconst (v := 0) hx hb dX4_isGhost_19 (by decide) ?_
      exact r_z hx hb hr hlocks dX4_isGhost_20 (bI_zero (decide_eq_false (by first | omega | (simp only [Int32.le_iff_toInt_le, Int32.lt_iff_toInt_lt, ← Int32.toInt_inj] at c1 c12 ⊢; omega))))
    · refine lv_iconst (v := 1) hx hb dX4_isGhost_15 (by decide) ?_
      refine lv_goto (tgt := 20) hx hb dX4_isGhost_16 (by decide) ?_
      exact r_z hx hb hr hlocks dX4_isGhost_20 (bI_one (decide_eq_true (by first | omega | (simp only [Int32.le_iff_toInt_le, Int32.lt_iff_toInt_lt, ← Int32.toInt_inj] at c1 c12 ⊢; omega))))
theorem c_isGhostY (l : Launch) (E : gE) (A : Nat → Prop) (g : Nat → Nat) (M : gM) (σ : Sg) (hv : VS σ) (hw : CW E g M σ) (k : Nat) (hk : k < kG σ) : Met l yX4_isGhost wsX4_isGhost ({ frames := 1, cells := 0, slots := 0, locals := 20 } : Room) (Pm E [.ref (g 0), .int (nI k)] (mP E A g M)) (k2_QcV (.int 1)) 0 0 (fun _ => False) := by
  have h := c_isGhost l E A g M σ hv hw (nI k)
  obtain ⟨⟨hR9, hG9, hU9, hD9⟩, -⟩ := id hv
  rwa [show bI (decide (0 ≤ nI k ∧ nI k < nI (kG σ))) = 1 by rw [decide_eq_true ⟨nI_pos' (by omega), nI_lt hk (by omega)⟩]; rfl] at h
theorem in_X4_isGuest_X4 : ∀ w ∈ u_ws RX4 TX4 8, w ∈ wsX4_isGuest := by decide +kernel
set_option maxHeartbeats 4000000 in
set_option maxRecDepth 100000 in
theorem c_isGuest (l : Launch) (E : gE) (A : Nat → Prop) (g : Nat → Nat) (M : gM) (σ : Sg) (hv : VS σ) (hw : CW E g M σ) (x : Int32) : Met l yX4_isGuest wsX4_isGuest ({ frames := 1, cells := 0, slots := 0, locals := 20 } : Room) (Pm E [.ref (g 0), .int x] (mP E A g M)) (k2_QcV (.int (bI (decide (0 ≤ x ∧ x < nI (kU σ)))))) 0 0 (fun _ => False) := by
  refine m_entry (by decide) rfl (Nat.le_of_ble_eq_true rfl) ?_
  intro p e s m args below meth c hx hb hr hml hts hown hlocks hin hM hK ls hl
  have hl : lv_has ls 2 [(0, .ref (g 0)), (1, .int x)] := hl
  have hown : s.vm.findClass RX4 = some m.cls := hown
  obtain ⟨⟨hR9, hG9, hU9, hD9⟩, -⟩ := id hv
  obtain ⟨mc1, el1, h1, -⟩ := CW.LR hw
  obtain ⟨mc2, el2, h2, -⟩ := CW.LG hw
  obtain ⟨mc3, el3, h3, -⟩ := CW.LU hw
  refine lv_iload_n hx hb dX4_isGuest_0 rfl (lv_at hl 1 rfl) ?_
  refine lv_if_lt (tgt := 19) hx hb dX4_isGuest_1 (by decide) (fun c1 => ?_) (fun c1 => ?_)
  · refine lv_iconst (v := 0) hx hb dX4_isGuest_19 (by decide) ?_
    exact r_z hx hb hr hlocks dX4_isGuest_20 (bI_zero (decide_eq_false (by first | omega | (simp only [Int32.le_iff_toInt_le, Int32.lt_iff_toInt_lt, ← Int32.toInt_inj] at c1 ⊢; omega))))
  · refine lv_iload_n hx hb dX4_isGuest_4 rfl (lv_at hl 1 rfl) ?_
    refine lv_aload_n hx hb dX4_isGuest_5 rfl (lv_at hl 0 rfl) ?_
    refine m_get hx hb hts in_X4_isGuest_X4 hown hK hM (CW.x hw) rfl 2 (by decide) (by decide +kernel) rfl dX4_isGuest_6 ?_
    refine m_cV 0 [] [.int x] hx hb hml hown hts hK (c_size l E A g M (CW.LU hw)) gX4_isGuest_Jx4a65c_size_8abf5 rfl rfl rfl (by decide +kernel) rfl ⟨Nat.le_of_ble_eq_true rfl, Nat.le_of_ble_eq_true rfl⟩ hM h3 rfl rfl hM hl.1 (Nat.le_of_ble_eq_true rfl) ⟨Nat.le_of_ble_eq_true rfl, Nat.le_of_ble_eq_true rfl⟩ rfl dX4_isGuest_9 ?_
    refine lv_icmp_ge (tgt := 19) hx hb dX4_isGuest_12 (by decide) (fun c12 => ?_) (fun c12 => ?_)
    · refine lv_iconst (v := 0) hx hb dX4_isGuest_19 (by decide) ?_
      exact r_z hx hb hr hlocks dX4_isGuest_20 (bI_zero (decide_eq_false (by first | omega | (simp only [Int32.le_iff_toInt_le, Int32.lt_iff_toInt_lt, ← Int32.toInt_inj] at c1 c12 ⊢; omega))))
    · refine lv_iconst (v := 1) hx hb dX4_isGuest_15 (by decide) ?_
      refine lv_goto (tgt := 20) hx hb dX4_isGuest_16 (by decide) ?_
      exact r_z hx hb hr hlocks dX4_isGuest_20 (bI_one (decide_eq_true (by first | omega | (simp only [Int32.le_iff_toInt_le, Int32.lt_iff_toInt_lt, ← Int32.toInt_inj] at c1 c12 ⊢; omega))))
theorem c_isGuestY (l : Launch) (E : gE) (A : Nat → Prop) (g : Nat → Nat) (M : gM) (σ : Sg) (hv : VS σ) (hw : CW E g M σ) (k : Nat) (hk : k < kU σ) : Met l yX4_isGuest wsX4_isGuest ({ frames := 1, cells := 0, slots := 0, locals := 20 } : Room) (Pm E [.ref (g 0), .int (nI k)] (mP E A g M)) (k2_QcV (.int 1)) 0 0 (fun _ => False) := by
  have h := c_isGuest l E A g M σ hv hw (nI k)
  obtain ⟨⟨hR9, hG9, hU9, hD9⟩, -⟩ := id hv
  rwa [show bI (decide (0 ≤ nI k ∧ nI k < nI (kU σ))) = 1 by rw [decide_eq_true ⟨nI_pos' (by omega), nI_lt hk (by omega)⟩]; rfl] at h
/-- whether a guest's price would count for a room; whether the bid does; upset, frightened -/
def sui (σ : Sg) (u k : Nat) : Bool := decide (sGu σ u 4 ≤ sGu σ u 0 ∧ sGu σ u 1 ≤ sRm σ k 0 ∧ sRm σ k 2 ≤ sGu σ u 4)
def cntB (σ : Sg) (u k : Nat) : Bool := decide (sGu σ u 3 = nI k) && sui σ u k
def upB (nv x : Int32) : Bool := decide (nv < 0 ∧ x < -nv ∨ 0 ≤ nv ∧ nv < x)
def frB (nv x : Int32) : Bool := decide (0 ≤ nv ∧ nv < x)
/-- the class's hauntings -/
def hIH (σ : Sg) (r : Int32) (h : Nat) (z : Int32) : Nat → Int32
  | 0 => 0
  | i + 1 => if ¬ nI i = z ∧ plc σ i h = r then hIH σ r h z i + sGh σ i 1 else hIH σ r h z i
def hON (σ : Sg) (r z : Int32) : Nat → Int32
  | 0 => 0
  | h + 1 => hON σ r z h + hIH σ r h z (kG σ)
/-- the class's auctions: winner and greatest price, what is due, how many bids count -/
def wnA (σ : Sg) (k : Nat) : Nat → Int32 × Int32
  | 0 => (-1, 0)
  | i + 1 => if cntB σ i k = true ∧ ¬ sGu σ i 4 ≤ (wnA σ k i).2 then (nI i, sGu σ i 4) else wnA σ k i
def wnr (σ : Sg) (k : Nat) : Int32 := (wnA σ k (kU σ)).1
def duA (σ : Sg) (k : Nat) (w : Int32) : Nat → Int32
  | 0 => sRm σ k 2
  | i + 1 => if ¬ nI i = w ∧ cntB σ i k = true then (if duA σ k w i < sGu σ i 4 then sGu σ i 4 else duA σ k w i) else duA σ k w i
def due (σ : Sg) (k : Nat) (w : Int32) : Int32 := if w = -1 then 0 else duA σ k w (kU σ)
def bcA (σ : Sg) (k : Nat) : Nat → Int32
  | 0 => 0
  | i + 1 => if cntB σ i k = true then bcA σ k i + 1 else bcA σ k i
def bwA (σ : Sg) : Nat → Int32
  | 0 => 0
  | i + 1 => if ¬ sGu σ i 3 = -1 then bwA σ i + 1 else bwA σ i
def rtA (σ : Sg) : Nat → Int32
  | 0 => 0
  | k + 1 => if ¬ wnr σ k = -1 then rtA σ k + 1 else rtA σ k
theorem wnA_nat (σ : Sg) (k : Nat) : ∀ n, (wnA σ k n).1 = -1 ∨ ∃ u, u < n ∧ (wnA σ k n).1 = nI u ∧ cntB σ u k = true ∧ (wnA σ k n).2 = sGu σ u 4
  | 0 => Or.inl rfl
  | n + 1 => by
    rw [wnA]
    split
    · rename_i h
      exact Or.inr ⟨n, by omega, rfl, h.1, rfl⟩
    · rcases wnA_nat σ k n with h | ⟨u, h1, h2, h3, h4⟩
      · exact Or.inl h
      · exact Or.inr ⟨u, by omega, h2, h3, h4⟩
theorem wnr_nat (σ : Sg) (k : Nat) : wnr σ k = -1 ∨ ∃ u, u < kU σ ∧ wnr σ k = nI u ∧ cntB σ u k = true := by
  rcases wnA_nat σ k (kU σ) with h | ⟨u, h1, h2, h3, -⟩
  · exact Or.inl h
  · exact Or.inr ⟨u, h1, h2, h3⟩
theorem nI_ne1 {n : Nat} (h : n < 2 ^ 31) : ¬ nI n = -1 := fun e => nI_pos h (by rw [e]; decide)
theorem wnr_ge (σ : Sg) (k : Nat) (hU : kU σ ≤ 12) (h : 0 ≤ wnr σ k ∧ wnr σ k < nI (kU σ)) : ∃ u, u < kU σ ∧ wnr σ k = nI u ∧ cntB σ u k = true := by
  rcases wnr_nat σ k with e | e
  · rw [e] at h; exact absurd h.1 (by decide)
  · exact e
theorem wnr_lt (σ : Sg) (k : Nat) (hU : kU σ ≤ 12) (h : ¬ (0 ≤ wnr σ k ∧ wnr σ k < nI (kU σ))) : wnr σ k = -1 := by
  rcases wnr_nat σ k with e | ⟨u, h1, h2, -⟩
  · exact e
  · exact absurd ⟨by rw [h2]; exact nI_pos' (by omega), by rw [h2]; exact nI_lt h1 (by omega)⟩ h
theorem c_place (l : Launch) (E : gE) (A : Nat → Prop) (g : Nat → Nat) (M : gM) (σ : Sg) (hv : VS σ) (hw : CW E g M σ) (hp : PW E M σ) (i : Nat) (hi : i < kG σ) (h : Nat) (hh : h < 12) : Met l yX0_placeIn wsX0_placeIn ({ frames := 0, cells := 0, slots := 0, locals := 0 } : Room) (Pm E [.ref (g (200 + i)), .int (nI h)] (mP E A g M)) (k2_QcV (.int (plc σ i h))) 0 0 (fun _ => False) := by
  have h1 := CW.ghost hw hi
  obtain ⟨f, h2, h3⟩ := hp i hi
  have h9 := c_placeIn l E A g M (200 + i) (300 + i) _ _ _ _ h1 f h2 h hh
  rwa [h3 h hh] at h9
theorem in_X4_hauntingInHour_X0 : ∀ w ∈ u_ws RX0 TX0 5, w ∈ wsX4_hauntingInHour := by decide +kernel
theorem in_X4_hauntingInHour_X4 : ∀ w ∈ u_ws RX4 TX4 8, w ∈ wsX4_hauntingInHour := by decide +kernel
set_option maxHeartbeats 4000000 in
set_option maxRecDepth 100000 in
theorem c_hIH (l : Launch) (E : gE) (A : Nat → Prop) (g : Nat → Nat) (M : gM) (σ : Sg) (hv : VS σ) (hw : CW E g M σ) (hp : PW E M σ) (r : Int32) (j : Nat) (hj : j < 12) (z : Int32) : Met l yX4_hauntingInHour wsX4_hauntingInHour ({ frames := 3, cells := 0, slots := 0, locals := 64 } : Room) (Pm E [.ref (g 0), .int r, .int (nI j), .int z] (mP E A g M)) (k2_QcV (.int (hIH σ r j z (kG σ)))) 0 0 (fun _ => False) := by
  refine m_entry (by decide) rfl (Nat.le_of_ble_eq_true rfl) ?_
  intro p e s m args below meth c hx hb hr hml hts hown hlocks hin hM hK ls hl
  have hl : lv_has ls 7 [(0, .ref (g 0)), (1, .int r), (2, .int (nI j)), (3, .int z)] := hl
  have hown : s.vm.findClass RX4 = some m.cls := hown
  obtain ⟨⟨hR9, hG9, hU9, hD9⟩, -⟩ := id hv
  obtain ⟨mc1, el1, h1, -⟩ := CW.LR hw
  obtain ⟨mc2, el2, h2, -⟩ := CW.LG hw
  obtain ⟨mc3, el3, h3, -⟩ := CW.LU hw
  refine lv_iconst (v := 0) hx hb dX4_hauntingInHour_0 (by decide) ?_
  refine lv_istore (lv' := [(4, .int 0), (0, .ref (g 0)), (1, .int r), (2, .int (nI j)), (3, .int z)]) hx hb dX4_hauntingInHour_1 hl (by decide) rfl (fun ls hl => ?_)
  refine lv_iconst (v := 0) hx hb dX4_hauntingInHour_3 (by decide) ?_
  refine lv_istore (lv' := [(5, .int 0), (4, .int 0), (0, .ref (g 0)), (1, .int r), (2, .int (nI j)), (3, .int z)]) hx hb dX4_hauntingInHour_4 hl (by decide) rfl (fun ls hl => ?_)
  have lp6 : ∀ (n6 i : Nat), n6 + i = kG σ → ∀ x4 : Int32, x4 = hIH σ r j z i → ∀ ls : Array Slot, lv_has ls 7 [(5, .int (nI i)), (4, .int x4), (0, .ref (g 0)), (1, .int r), (2, .int (nI j)), (3, .int z)] → W p l e ({ frames := 3, cells := 0, slots := 0, locals := 64 } : Room) s m args below meth c s.heap [] 0 0 (MQ below (k2_QcV (.int (hIH σ r j z (kG σ)))) args s 0 0 (fun _ => False)) (F0 m 6 ls []) := by
    intro n6
    induction n6 with
    | zero =>
      intro i hi6 x4 ex4 ls hl
      obtain rfl : kG σ = i := by omega
      refine lv_iload hx hb dX4_hauntingInHour_6 (lv_at hl 0 rfl) ?_
      refine lv_aload_n hx hb dX4_hauntingInHour_8 rfl (lv_at hl 2 rfl) ?_
      refine m_get hx hb hts in_X4_hauntingInHour_X4 hown hK hM (CW.x hw) rfl 1 (by decide) (by decide +kernel) rfl dX4_hauntingInHour_9 ?_
      refine m_cV 0 [] [.int (nI (kG σ))] hx hb hml hown hts hK (c_size l E A g M (CW.LG hw)) gX4_hauntingInHour_Jx4a65c_size_8abf5 rfl rfl rfl (by decide +kernel) rfl ⟨Nat.le_of_ble_eq_true rfl, Nat.le_of_ble_eq_true rfl⟩ hM h2 rfl rfl hM hl.1 (Nat.le_of_ble_eq_true rfl) ⟨Nat.le_of_ble_eq_true rfl, Nat.le_of_ble_eq_true rfl⟩ rfl dX4_hauntingInHour_12 ?_
      refine lv_icmp_ge (tgt := 64) hx hb dX4_hauntingInHour_15 (by decide) (fun c15 => ?_) (fun c9 => absurd (Int32.le_refl _) c9)
      refine lv_iload hx hb dX4_hauntingInHour_64 (lv_at hl 1 rfl) ?_
      exact r_i hx hb hr hlocks dX4_hauntingInHour_66 (by first | rfl | assumption)
    | succ n6 ih6 =>
      intro i hi6 x4 ex4 ls hl
      have hlt6 : i < kG σ := by omega
      refine lv_iload hx hb dX4_hauntingInHour_6 (lv_at hl 0 rfl) ?_
      refine lv_aload_n hx hb dX4_hauntingInHour_8 rfl (lv_at hl 2 rfl) ?_
      refine m_get hx hb hts in_X4_hauntingInHour_X4 hown hK hM (CW.x hw) rfl 1 (by decide) (by decide +kernel) rfl dX4_hauntingInHour_9 ?_
      refine m_cV 0 [] [.int (nI i)] hx hb hml hown hts hK (c_size l E A g M (CW.LG hw)) gX4_hauntingInHour_Jx4a65c_size_8abf5 rfl rfl rfl (by decide +kernel) rfl ⟨Nat.le_of_ble_eq_true rfl, Nat.le_of_ble_eq_true rfl⟩ hM h2 rfl rfl hM hl.1 (Nat.le_of_ble_eq_true rfl) ⟨Nat.le_of_ble_eq_true rfl, Nat.le_of_ble_eq_true rfl⟩ rfl dX4_hauntingInHour_12 ?_
      refine lv_icmp_ge (tgt := 64) hx hb dX4_hauntingInHour_15 (by decide) (fun c9 => absurd c9 (nI_ge hlt6 (by omega))) (fun c15 => ?_)
      refine lv_aload_n hx hb dX4_hauntingInHour_18 rfl (lv_at hl 2 rfl) ?_
      refine m_get hx hb hts in_X4_hauntingInHour_X4 hown hK hM (CW.x hw) rfl 1 (by decide) (by decide +kernel) rfl dX4_hauntingInHour_19 ?_
      refine lv_iload hx hb dX4_hauntingInHour_22 (lv_at hl 0 rfl) ?_
      refine m_cV 1 [.int (nI i)] [] hx hb hml hown hts hK (c_get l E A g M (CW.LG hw) (by omega) i (by omega)) gX4_hauntingInHour_Jx4a65c_get_915e3 rfl rfl rfl (by decide +kernel) rfl ⟨Nat.le_of_ble_eq_true rfl, Nat.le_of_ble_eq_true rfl⟩ hM h2 rfl rfl hM hl.1 (Nat.le_of_ble_eq_true rfl) ⟨Nat.le_of_ble_eq_true rfl, Nat.le_of_ble_eq_true rfl⟩ rfl dX4_hauntingInHour_24 ?_
      refine m_cast (ci := 1) hx hb hts hown (by decide +kernel) hK hM (CW.ghost hw (i := i) (by omega)) rfl dX4_hauntingInHour_27 ?_
      refine lv_astore (lv' := [(6, .ref (g (200 + i))), (5, .int (nI i)), (4, .int x4), (0, .ref (g 0)), (1, .int r), (2, .int (nI j)), (3, .int z)]) hx hb dX4_hauntingInHour_30 hl (by decide) rfl (fun ls hl => ?_)
      refine lv_iload hx hb dX4_hauntingInHour_32 (lv_at hl 1 rfl) ?_
      refine lv_iload_n hx hb dX4_hauntingInHour_34 rfl (lv_at hl 6 rfl) ?_
      refine lv_icmp_eq (tgt := 58) hx hb dX4_hauntingInHour_35 (by decide) (fun c35 => ?_) (fun c35 => ?_)
      · refine lv_iinc (v := nI (i + 1)) (lv' := [(5, .int (nI (i + 1))), (6, .ref (g (200 + i))), (4, .int x4), (0, .ref (g 0)), (1, .int r), (2, .int (nI j)), (3, .int z)]) hx hb dX4_hauntingInHour_58 hl (k := 1) rfl (m_inc _) (by decide) rfl (fun ls hl => ?_)
        refine lv_goto (tgt := 6) hx hb dX4_hauntingInHour_61 (by decide) ?_
        exact ih6 (i + 1) (by omega) _ (by simp only [hIH, c15, c35, ← ex4, if_true, if_false, true_and, and_true, false_and, and_false, not_true_eq_false, not_false_eq_true, reduceCtorEq, eq_self_iff_true, and_self, Bool.false_eq_true, Bool.not_eq_true]) ls (lv_sub hl [0, 2, 3, 4, 5, 6] rfl)
      · refine lv_aload hx hb dX4_hauntingInHour_38 (lv_at hl 0 rfl) ?_
        refine lv_iload_n hx hb dX4_hauntingInHour_40 rfl (lv_at hl 5 rfl) ?_
        refine m_cV 1 [.int (nI j)] [] hx hb hml hown hts hK (c_place l E A g M σ hv hw hp i (by omega) j (by omega)) gX4_hauntingInHour_X0_placeIn rfl rfl rfl (by decide +kernel) rfl ⟨Nat.le_of_ble_eq_true rfl, Nat.le_of_ble_eq_true rfl⟩ hM (CW.ghost hw (i := i) (by omega)) rfl rfl hM hl.1 (Nat.le_of_ble_eq_true rfl) ⟨Nat.le_of_ble_eq_true rfl, Nat.le_of_ble_eq_true rfl⟩ rfl dX4_hauntingInHour_41 ?_
        refine lv_iload_n hx hb dX4_hauntingInHour_44 rfl (lv_at hl 4 rfl) ?_
        refine lv_icmp_ne (tgt := 58) hx hb dX4_hauntingInHour_45 (by decide) (fun c45 => ?_) (fun c45 => ?_)
        · refine lv_iinc (v := nI (i + 1)) (lv' := [(5, .int (nI (i + 1))), (6, .ref (g (200 + i))), (4, .int x4), (0, .ref (g 0)), (1, .int r), (2, .int (nI j)), (3, .int z)]) hx hb dX4_hauntingInHour_58 hl (k := 1) rfl (m_inc _) (by decide) rfl (fun ls hl => ?_)
          refine lv_goto (tgt := 6) hx hb dX4_hauntingInHour_61 (by decide) ?_
          exact ih6 (i + 1) (by omega) _ (by simp only [hIH, c15, c35, c45, ← ex4, if_true, if_false, true_and, and_true, false_and, and_false, not_true_eq_false, not_false_eq_true, reduceCtorEq, eq_self_iff_true, and_self, Bool.false_eq_true, Bool.not_eq_true]) ls (lv_sub hl [0, 2, 3, 4, 5, 6] rfl)
        · refine lv_iload hx hb dX4_hauntingInHour_48 (lv_at hl 2 rfl) ?_
          refine lv_aload hx hb dX4_hauntingInHour_50 (lv_at hl 0 rfl) ?_
          refine m_get hx hb hts in_X4_hauntingInHour_X0 hown hK hM (CW.ghost hw (i := i) (by omega)) rfl 1 (by decide) (by decide +kernel) rfl dX4_hauntingInHour_52 ?_
          refine lv_iadd hx hb dX4_hauntingInHour_55 ?_
          refine lv_istore (lv' := [(4, .int (x4 + (sGh σ i 1))), (6, .ref (g (200 + i))), (5, .int (nI i)), (0, .ref (g 0)), (1, .int r), (2, .int (nI j)), (3, .int z)]) hx hb dX4_hauntingInHour_56 hl (by decide) rfl (fun ls hl => ?_)
          refine lv_iinc (v := nI (i + 1)) (lv' := [(5, .int (nI (i + 1))), (4, .int (x4 + (sGh σ i 1))), (6, .ref (g (200 + i))), (0, .ref (g 0)), (1, .int r), (2, .int (nI j)), (3, .int z)]) hx hb dX4_hauntingInHour_58 hl (k := 2) rfl (m_inc _) (by decide) rfl (fun ls hl => ?_)
          refine lv_goto (tgt := 6) hx hb dX4_hauntingInHour_61 (by decide) ?_
          exact ih6 (i + 1) (by omega) _ (by simp only [hIH, c15, c35, c45, ← ex4, if_true, if_false, true_and, and_true, false_and, and_false, not_true_eq_false, not_false_eq_true, reduceCtorEq, eq_self_iff_true, and_self, Bool.false_eq_true, Bool.not_eq_true]) ls (lv_sub hl [0, 1, 3, 4, 5, 6] rfl)
  exact lp6 (kG σ) 0 (by omega) _ (rfl) ls (lv_sub hl [0, 1, 2, 3, 4, 5] rfl)
set_option maxHeartbeats 4000000 in
set_option maxRecDepth 100000 in
theorem c_hON (l : Launch) (E : gE) (A : Nat → Prop) (g : Nat → Nat) (M : gM) (σ : Sg) (hv : VS σ) (hw : CW E g M σ) (hp : PW E M σ) (r z : Int32) : Met l yX4_hauntingOfNight wsX4_hauntingOfNight ({ frames := 4, cells := 0, slots := 0, locals := 90 } : Room) (Pm E [.ref (g 0), .int r, .int z] (mP E A g M)) (k2_QcV (.int (hON σ r z 12))) 0 0 (fun _ => False) := by
  refine m_entry (by decide) rfl (Nat.le_of_ble_eq_true rfl) ?_
  intro p e s m args below meth c hx hb hr hml hts hown hlocks hin hM hK ls hl
  have hl : lv_has ls 5 [(0, .ref (g 0)), (1, .int r), (2, .int z)] := hl
  have hown : s.vm.findClass RX4 = some m.cls := hown
  obtain ⟨⟨hR9, hG9, hU9, hD9⟩, -⟩ := id hv
  obtain ⟨mc1, el1, h1, -⟩ := CW.LR hw
  obtain ⟨mc2, el2, h2, -⟩ := CW.LG hw
  obtain ⟨mc3, el3, h3, -⟩ := CW.LU hw
  refine lv_iconst (v := 0) hx hb dX4_hauntingOfNight_0 (by decide) ?_
  refine lv_istore_n (lv' := [(3, .int 0), (0, .ref (g 0)), (1, .int r), (2, .int z)]) hx hb dX4_hauntingOfNight_1 rfl hl (by decide) rfl (fun ls hl => ?_)
  refine lv_iconst (v := 0) hx hb dX4_hauntingOfNight_2 (by decide) ?_
  refine lv_istore (lv' := [(4, .int 0), (3, .int 0), (0, .ref (g 0)), (1, .int r), (2, .int z)]) hx hb dX4_hauntingOfNight_3 hl (by decide) rfl (fun ls hl => ?_)
  have lp5 : ∀ (n5 i : Nat), n5 + i = 12 → ∀ x3 : Int32, x3 = hON σ r z i → ∀ ls : Array Slot, lv_has ls 5 [(4, .int (nI i)), (3, .int x3), (0, .ref (g 0)), (1, .int r), (2, .int z)] → W p l e ({ frames := 4, cells := 0, slots := 0, locals := 90 } : Room) s m args below meth c s.heap [] 0 0 (MQ below (k2_QcV (.int (hON σ r z 12))) args s 0 0 (fun _ => False)) (F0 m 5 ls []) := by
    intro n5
    induction n5 with
    | zero =>
      intro i hi5 x3 ex3 ls hl
      obtain rfl : 12 = i := by omega
      refine lv_iload hx hb dX4_hauntingOfNight_5 (lv_at hl 0 rfl) ?_
      refine lv_bipush (v := 12) hx hb dX4_hauntingOfNight_7 (by decide) ?_
      refine lv_icmp_ge (tgt := 29) hx hb dX4_hauntingOfNight_9 (by decide) (fun c9 => ?_) (fun c9 => absurd (Int32.le_refl _) c9)
      refine lv_iload_n hx hb dX4_hauntingOfNight_29 rfl (lv_at hl 1 rfl) ?_
      exact r_i hx hb hr hlocks dX4_hauntingOfNight_30 (by first | rfl | assumption)
    | succ n5 ih5 =>
      intro i hi5 x3 ex3 ls hl
      have hlt5 : i < 12 := by omega
      refine lv_iload hx hb dX4_hauntingOfNight_5 (lv_at hl 0 rfl) ?_
      refine lv_bipush (v := 12) hx hb dX4_hauntingOfNight_7 (by decide) ?_
      refine lv_icmp_ge (tgt := 29) hx hb dX4_hauntingOfNight_9 (by decide) (fun c9 => absurd c9 (nI_ge (b := 12) hlt5 (by omega))) (fun c9 => ?_)
      refine lv_iload_n hx hb dX4_hauntingOfNight_12 rfl (lv_at hl 1 rfl) ?_
      refine lv_aload_n hx hb dX4_hauntingOfNight_13 rfl (lv_at hl 2 rfl) ?_
      refine lv_iload_n hx hb dX4_hauntingOfNight_14 rfl (lv_at hl 3 rfl) ?_
      refine lv_iload hx hb dX4_hauntingOfNight_15 (lv_at hl 0 rfl) ?_
      refine lv_iload_n hx hb dX4_hauntingOfNight_17 rfl (lv_at hl 4 rfl) ?_
      refine m_cV 3 [.int r, .int (nI i), .int z] [.int x3] hx hb hml hown hts hK (c_hIH l E A g M σ hv hw hp r i (by omega) z) gX4_hauntingOfNight_X4_hauntingInHour rfl rfl rfl (by decide +kernel) rfl ⟨Nat.le_of_ble_eq_true rfl, Nat.le_of_ble_eq_true rfl⟩ hM (CW.x hw) rfl rfl hM hl.1 (Nat.le_of_ble_eq_true rfl) ⟨Nat.le_of_ble_eq_true rfl, Nat.le_of_ble_eq_true rfl⟩ rfl dX4_hauntingOfNight_18 ?_
      refine lv_iadd hx hb dX4_hauntingOfNight_21 ?_
      refine lv_istore_n (lv' := [(3, .int (x3 + (hIH σ r i z (kG σ)))), (4, .int (nI i)), (0, .ref (g 0)), (1, .int r), (2, .int z)]) hx hb dX4_hauntingOfNight_22 rfl hl (by decide) rfl (fun ls hl => ?_)
      refine lv_iinc (v := nI (i + 1)) (lv' := [(4, .int (nI (i + 1))), (3, .int (x3 + (hIH σ r i z (kG σ)))), (0, .ref (g 0)), (1, .int r), (2, .int z)]) hx hb dX4_hauntingOfNight_23 hl (k := 1) rfl (m_inc _) (by decide) rfl (fun ls hl => ?_)
      refine lv_goto (tgt := 5) hx hb dX4_hauntingOfNight_26 (by decide) ?_
      exact ih5 (i + 1) (by omega) _ (by simp only [hON, c9, ← ex3, if_true, if_false, true_and, and_true, false_and, and_false, not_true_eq_false, not_false_eq_true, reduceCtorEq, eq_self_iff_true, and_self, Bool.false_eq_true, Bool.not_eq_true]) ls (lv_sub hl [0, 1, 2, 3, 4] rfl)
  exact lp5 (12) 0 (by omega) _ (rfl) ls (lv_sub hl [0, 1, 2, 3, 4] rfl)
theorem in_X4_countsFor_X1 : ∀ w ∈ u_ws RX1 TX1 7, w ∈ wsX4_countsFor := by decide +kernel
theorem in_X4_countsFor_X4 : ∀ w ∈ u_ws RX4 TX4 8, w ∈ wsX4_countsFor := by decide +kernel
set_option maxHeartbeats 4000000 in
set_option maxRecDepth 100000 in
theorem c_countsFor (l : Launch) (E : gE) (A : Nat → Prop) (g : Nat → Nat) (M : gM) (σ : Sg) (hv : VS σ) (hw : CW E g M σ) (hp : PW E M σ) (u k : Nat) (hu : u < kU σ) (hk : k < kR σ) : Met l yX4_countsFor wsX4_countsFor ({ frames := 3, cells := 0, slots := 0, locals := 64 } : Room) (Pm E [.ref (g 0), .ref (g (400 + u)), .int (nI k)] (mP E A g M)) (k2_QcV (.int (bI (cntB σ u k)))) 0 0 (fun _ => False) := by
  refine m_entry (by decide) rfl (Nat.le_of_ble_eq_true rfl) ?_
  intro p e s m args below meth c hx hb hr hml hts hown hlocks hin hM hK ls hl
  have hl : lv_has ls 3 [(0, .ref (g 0)), (1, .ref (g (400 + u))), (2, .int (nI k))] := hl
  have hown : s.vm.findClass RX4 = some m.cls := hown
  obtain ⟨⟨hR9, hG9, hU9, hD9⟩, -⟩ := id hv
  obtain ⟨mc1, el1, h1, -⟩ := CW.LR hw
  obtain ⟨mc2, el2, h2, -⟩ := CW.LG hw
  obtain ⟨mc3, el3, h3, -⟩ := CW.LU hw
  refine lv_aload_n hx hb dX4_countsFor_0 rfl (lv_at hl 0 rfl) ?_
  refine lv_iload_n hx hb dX4_countsFor_1 rfl (lv_at hl 2 rfl) ?_
  refine m_cV 1 [.int (nI k)] [] hx hb hml hown hts hK (c_isRoomY l E A g M σ hv hw k (by omega)) gX4_countsFor_X4_isRoom rfl rfl rfl (by decide +kernel) rfl ⟨Nat.le_of_ble_eq_true rfl, Nat.le_of_ble_eq_true rfl⟩ hM (CW.x hw) rfl rfl hM hl.1 (Nat.le_of_ble_eq_true rfl) ⟨Nat.le_of_ble_eq_true rfl, Nat.le_of_ble_eq_true rfl⟩ rfl dX4_countsFor_2 ?_
  refine lv_if_eq (tgt := 38) hx hb dX4_countsFor_5 (by decide) (fun c9 => absurd c9 (by decide)) (fun c9 => ?_)
  refine lv_aload_n hx hb dX4_countsFor_8 rfl (lv_at hl 1 rfl) ?_
  refine m_get hx hb hts in_X4_countsFor_X1 hown hK hM (CW.guest hw (i := u) (by omega)) rfl 3 (by decide) (by decide +kernel) rfl dX4_countsFor_9 ?_
  refine lv_iload_n hx hb dX4_countsFor_12 rfl (lv_at hl 2 rfl) ?_
  refine lv_icmp_ne (tgt := 38) hx hb dX4_countsFor_13 (by decide) (fun c13 => ?_) (fun c13 => ?_)
  · refine lv_iconst (v := 0) hx hb dX4_countsFor_38 (by decide) ?_
    exact r_z hx hb hr hlocks dX4_countsFor_39 (bI_zero (by simp only [cntB, sui, c13, decide_true, decide_false, Bool.and_false, Bool.false_and, Bool.and_self, if_true, if_false, true_and, and_true, false_and, and_false, not_true_eq_false, not_false_eq_true, reduceCtorEq, eq_self_iff_true, and_self, Bool.false_eq_true, Bool.not_eq_true]))
  · refine lv_aload_n hx hb dX4_countsFor_16 rfl (lv_at hl 1 rfl) ?_
    refine lv_aload_n hx hb dX4_countsFor_17 rfl (lv_at hl 0 rfl) ?_
    refine m_get hx hb hts in_X4_countsFor_X4 hown hK hM (CW.x hw) rfl 0 (by decide) (by decide +kernel) rfl dX4_countsFor_18 ?_
    refine lv_iload_n hx hb dX4_countsFor_21 rfl (lv_at hl 2 rfl) ?_
    refine m_cV 1 [.int (nI k)] [.ref (g (400 + u))] hx hb hml hown hts hK (c_get l E A g M (CW.LR hw) (by omega) k (by omega)) gX4_countsFor_Jx4a65c_get_915e3 rfl rfl rfl (by decide +kernel) rfl ⟨Nat.le_of_ble_eq_true rfl, Nat.le_of_ble_eq_true rfl⟩ hM h1 rfl rfl hM hl.1 (Nat.le_of_ble_eq_true rfl) ⟨Nat.le_of_ble_eq_true rfl, Nat.le_of_ble_eq_true rfl⟩ rfl dX4_countsFor_22 ?_
    refine m_cast (ci := 3) hx hb hts hown (by decide +kernel) hK hM (CW.room hw (i := k) (by omega)) rfl dX4_countsFor_25 ?_
    refine m_cV 1 [.ref (g (100 + k))] [] hx hb hml hown hts hK (c_couldBidFor l E A g M (400 + u) (sGu σ u 1) (sGu σ u 0) (sGu σ u 2) (sGu σ u 3) (sGu σ u 4) (sGu σ u 5) (sGu σ u 6) (CW.guest hw (by omega)) (100 + k) (sRm σ k 0) (sRm σ k 2) (sRm σ k 1) (sRm σ k 3) (sRm σ k 4) (sJn σ k) (CW.room hw (by omega))) gX4_countsFor_X1_couldBidFor rfl rfl rfl (by decide +kernel) rfl ⟨Nat.le_of_ble_eq_true rfl, Nat.le_of_ble_eq_true rfl⟩ hM (CW.guest hw (i := u) (by omega)) rfl rfl hM hl.1 (Nat.le_of_ble_eq_true rfl) ⟨Nat.le_of_ble_eq_true rfl, Nat.le_of_ble_eq_true rfl⟩ rfl dX4_countsFor_28 ?_
    refine lv_if_eq (tgt := 38) hx hb dX4_countsFor_31 (by decide) (fun c31 => ?_) (fun c31 => ?_)
    · have c31 := bI_f c31
      refine lv_iconst (v := 0) hx hb dX4_countsFor_38 (by decide) ?_
      exact r_z hx hb hr hlocks dX4_countsFor_39 (bI_zero (by simp only [cntB, sui, c13, c31, decide_true, decide_false, Bool.and_false, Bool.false_and, Bool.and_self, if_true, if_false, true_and, and_true, false_and, and_false, not_true_eq_false, not_false_eq_true, reduceCtorEq, eq_self_iff_true, and_self, Bool.false_eq_true, Bool.not_eq_true]))
    · have c31 := bI_t c31
      refine lv_iconst (v := 1) hx hb dX4_countsFor_34 (by decide) ?_
      refine lv_goto (tgt := 39) hx hb dX4_countsFor_35 (by decide) ?_
      exact r_z hx hb hr hlocks dX4_countsFor_39 (bI_one (by simp only [cntB, sui, c13, c31, decide_true, Bool.and_self, if_true, if_false, true_and, and_true, false_and, and_false, not_true_eq_false, not_false_eq_true, reduceCtorEq, eq_self_iff_true, and_self, Bool.false_eq_true, Bool.not_eq_true]))
theorem in_X4_winnerOf_X1 : ∀ w ∈ u_ws RX1 TX1 7, w ∈ wsX4_winnerOf := by decide +kernel
theorem in_X4_winnerOf_X4 : ∀ w ∈ u_ws RX4 TX4 8, w ∈ wsX4_winnerOf := by decide +kernel
set_option maxHeartbeats 4000000 in
set_option maxRecDepth 100000 in
theorem c_winnerOf (l : Launch) (E : gE) (A : Nat → Prop) (g : Nat → Nat) (M : gM) (σ : Sg) (hv : VS σ) (hw : CW E g M σ) (hp : PW E M σ) (k : Nat) (hk : k < kR σ) : Met l yX4_winnerOf wsX4_winnerOf ({ frames := 4, cells := 0, slots := 0, locals := 86 } : Room) (Pm E [.ref (g 0), .int (nI k)] (mP E A g M)) (k2_QcV (.int (wnr σ k))) 0 0 (fun _ => False) := by
  refine m_entry (by decide) rfl (Nat.le_of_ble_eq_true rfl) ?_
  intro p e s m args below meth c hx hb hr hml hts hown hlocks hin hM hK ls hl
  have hl : lv_has ls 6 [(0, .ref (g 0)), (1, .int (nI k))] := hl
  have hown : s.vm.findClass RX4 = some m.cls := hown
  obtain ⟨⟨hR9, hG9, hU9, hD9⟩, -⟩ := id hv
  obtain ⟨mc1, el1, h1, -⟩ := CW.LR hw
  obtain ⟨mc2, el2, h2, -⟩ := CW.LG hw
  obtain ⟨mc3, el3, h3, -⟩ := CW.LU hw
  refine lv_iconst (v := (-1)) hx hb dX4_winnerOf_0 (by decide) ?_
  refine lv_istore_n (lv' := [(2, .int (-1)), (0, .ref (g 0)), (1, .int (nI k))]) hx hb dX4_winnerOf_1 rfl hl (by decide) rfl (fun ls hl => ?_)
  refine lv_iconst (v := 0) hx hb dX4_winnerOf_2 (by decide) ?_
  refine lv_istore_n (lv' := [(3, .int 0), (2, .int (-1)), (0, .ref (g 0)), (1, .int (nI k))]) hx hb dX4_winnerOf_3 rfl hl (by decide) rfl (fun ls hl => ?_)
  refine lv_iconst (v := 0) hx hb dX4_winnerOf_4 (by decide) ?_
  refine lv_istore (lv' := [(4, .int 0), (3, .int 0), (2, .int (-1)), (0, .ref (g 0)), (1, .int (nI k))]) hx hb dX4_winnerOf_5 hl (by decide) rfl (fun ls hl => ?_)
  have lp7 : ∀ (n7 i : Nat), n7 + i = kU σ → ∀ x2 : Int32, x2 = (wnA σ k i).1 → ∀ x3 : Int32, x3 = (wnA σ k i).2 → ∀ ls : Array Slot, lv_has ls 6 [(4, .int (nI i)), (2, .int x2), (3, .int x3), (0, .ref (g 0)), (1, .int (nI k))] → W p l e ({ frames := 4, cells := 0, slots := 0, locals := 86 } : Room) s m args below meth c s.heap [] 0 0 (MQ below (k2_QcV (.int (wnr σ k))) args s 0 0 (fun _ => False)) (F0 m 7 ls []) := by
    intro n7
    induction n7 with
    | zero =>
      intro i hi7 x2 ex2 x3 ex3 ls hl
      obtain rfl : kU σ = i := by omega
      refine lv_iload hx hb dX4_winnerOf_7 (lv_at hl 0 rfl) ?_
      refine lv_aload_n hx hb dX4_winnerOf_9 rfl (lv_at hl 3 rfl) ?_
      refine m_get hx hb hts in_X4_winnerOf_X4 hown hK hM (CW.x hw) rfl 2 (by decide) (by decide +kernel) rfl dX4_winnerOf_10 ?_
      refine m_cV 0 [] [.int (nI (kU σ))] hx hb hml hown hts hK (c_size l E A g M (CW.LU hw)) gX4_winnerOf_Jx4a65c_size_8abf5 rfl rfl rfl (by decide +kernel) rfl ⟨Nat.le_of_ble_eq_true rfl, Nat.le_of_ble_eq_true rfl⟩ hM h3 rfl rfl hM hl.1 (Nat.le_of_ble_eq_true rfl) ⟨Nat.le_of_ble_eq_true rfl, Nat.le_of_ble_eq_true rfl⟩ rfl dX4_winnerOf_13 ?_
      refine lv_icmp_ge (tgt := 67) hx hb dX4_winnerOf_16 (by decide) (fun c16 => ?_) (fun c9 => absurd (Int32.le_refl _) c9)
      refine lv_iload_n hx hb dX4_winnerOf_67 rfl (lv_at hl 1 rfl) ?_
      exact r_i hx hb hr hlocks dX4_winnerOf_68 (by rw [ex2]; rfl)
    | succ n7 ih7 =>
      intro i hi7 x2 ex2 x3 ex3 ls hl
      have hlt7 : i < kU σ := by omega
      refine lv_iload hx hb dX4_winnerOf_7 (lv_at hl 0 rfl) ?_
      refine lv_aload_n hx hb dX4_winnerOf_9 rfl (lv_at hl 3 rfl) ?_
      refine m_get hx hb hts in_X4_winnerOf_X4 hown hK hM (CW.x hw) rfl 2 (by decide) (by decide +kernel) rfl dX4_winnerOf_10 ?_
      refine m_cV 0 [] [.int (nI i)] hx hb hml hown hts hK (c_size l E A g M (CW.LU hw)) gX4_winnerOf_Jx4a65c_size_8abf5 rfl rfl rfl (by decide +kernel) rfl ⟨Nat.le_of_ble_eq_true rfl, Nat.le_of_ble_eq_true rfl⟩ hM h3 rfl rfl hM hl.1 (Nat.le_of_ble_eq_true rfl) ⟨Nat.le_of_ble_eq_true rfl, Nat.le_of_ble_eq_true rfl⟩ rfl dX4_winnerOf_13 ?_
      refine lv_icmp_ge (tgt := 67) hx hb dX4_winnerOf_16 (by decide) (fun c9 => absurd c9 (nI_ge hlt7 (by omega))) (fun c16 => ?_)
      refine lv_aload_n hx hb dX4_winnerOf_19 rfl (lv_at hl 3 rfl) ?_
      refine m_get hx hb hts in_X4_winnerOf_X4 hown hK hM (CW.x hw) rfl 2 (by decide) (by decide +kernel) rfl dX4_winnerOf_20 ?_
      refine lv_iload hx hb dX4_winnerOf_23 (lv_at hl 0 rfl) ?_
      refine m_cV 1 [.int (nI i)] [] hx hb hml hown hts hK (c_get l E A g M (CW.LU hw) (by omega) i (by omega)) gX4_winnerOf_Jx4a65c_get_915e3 rfl rfl rfl (by decide +kernel) rfl ⟨Nat.le_of_ble_eq_true rfl, Nat.le_of_ble_eq_true rfl⟩ hM h3 rfl rfl hM hl.1 (Nat.le_of_ble_eq_true rfl) ⟨Nat.le_of_ble_eq_true rfl, Nat.le_of_ble_eq_true rfl⟩ rfl dX4_winnerOf_25 ?_
      refine m_cast (ci := 2) hx hb hts hown (by decide +kernel) hK hM (CW.guest hw (i := i) (by omega)) rfl dX4_winnerOf_28 ?_
      refine lv_astore (lv' := [(5, .ref (g (400 + i))), (4, .int (nI i)), (2, .int x2), (3, .int x3), (0, .ref (g 0)), (1, .int (nI k))]) hx hb dX4_winnerOf_31 hl (by decide) rfl (fun ls hl => ?_)
      refine lv_aload_n hx hb dX4_winnerOf_33 rfl (lv_at hl 4 rfl) ?_
      refine lv_aload hx hb dX4_winnerOf_34 (lv_at hl 0 rfl) ?_
      refine lv_iload_n hx hb dX4_winnerOf_36 rfl (lv_at hl 5 rfl) ?_
      refine m_cV 2 [.ref (g (400 + i)), .int (nI k)] [] hx hb hml hown hts hK (c_countsFor l E A g M σ hv hw hp i k (by omega) (by omega)) gX4_winnerOf_X4_countsFor rfl rfl rfl (by decide +kernel) rfl ⟨Nat.le_of_ble_eq_true rfl, Nat.le_of_ble_eq_true rfl⟩ hM (CW.x hw) rfl rfl hM hl.1 (Nat.le_of_ble_eq_true rfl) ⟨Nat.le_of_ble_eq_true rfl, Nat.le_of_ble_eq_true rfl⟩ rfl dX4_winnerOf_37 ?_
      refine lv_if_eq (tgt := 61) hx hb dX4_winnerOf_40 (by decide) (fun c40 => ?_) (fun c40 => ?_)
      · have c40 := bI_f c40
        refine lv_iinc (v := nI (i + 1)) (lv' := [(4, .int (nI (i + 1))), (5, .ref (g (400 + i))), (2, .int x2), (3, .int x3), (0, .ref (g 0)), (1, .int (nI k))]) hx hb dX4_winnerOf_61 hl (k := 1) rfl (m_inc _) (by decide) rfl (fun ls hl => ?_)
        refine lv_goto (tgt := 7) hx hb dX4_winnerOf_64 (by decide) ?_
        exact ih7 (i + 1) (by omega) _ (by simp only [wnA, c16, c40, ← ex2, ← ex3, if_true, if_false, true_and, and_true, false_and, and_false, not_true_eq_false, not_false_eq_true, reduceCtorEq, eq_self_iff_true, and_self, Bool.false_eq_true, Bool.not_eq_true]) _ (by simp only [wnA, c16, c40, ← ex2, ← ex3, if_true, if_false, true_and, and_true, false_and, and_false, not_true_eq_false, not_false_eq_true, reduceCtorEq, eq_self_iff_true, and_self, Bool.false_eq_true, Bool.not_eq_true]) ls (lv_sub hl [0, 2, 3, 4, 5] rfl)
      · have c40 := bI_t c40
        refine lv_aload hx hb dX4_winnerOf_43 (lv_at hl 0 rfl) ?_
        refine m_get hx hb hts in_X4_winnerOf_X1 hown hK hM (CW.guest hw (i := i) (by omega)) rfl 4 (by decide) (by decide +kernel) rfl dX4_winnerOf_45 ?_
        refine lv_iload_n hx hb dX4_winnerOf_48 rfl (lv_at hl 3 rfl) ?_
        refine lv_icmp_le (tgt := 61) hx hb dX4_winnerOf_49 (by decide) (fun c49 => ?_) (fun c49 => ?_)
        · refine lv_iinc (v := nI (i + 1)) (lv' := [(4, .int (nI (i + 1))), (5, .ref (g (400 + i))), (2, .int x2), (3, .int x3), (0, .ref (g 0)), (1, .int (nI k))]) hx hb dX4_winnerOf_61 hl (k := 1) rfl (m_inc _) (by decide) rfl (fun ls hl => ?_)
          refine lv_goto (tgt := 7) hx hb dX4_winnerOf_64 (by decide) ?_
          exact ih7 (i + 1) (by omega) _ (by simp only [wnA, c16, c40, c49, ← ex2, ← ex3, if_true, if_false, true_and, and_true, false_and, and_false, not_true_eq_false, not_false_eq_true, reduceCtorEq, eq_self_iff_true, and_self, Bool.false_eq_true, Bool.not_eq_true]) _ (by simp only [wnA, c16, c40, c49, ← ex2, ← ex3, if_true, if_false, true_and, and_true, false_and, and_false, not_true_eq_false, not_false_eq_true, reduceCtorEq, eq_self_iff_true, and_self, Bool.false_eq_true, Bool.not_eq_true]) ls (lv_sub hl [0, 2, 3, 4, 5] rfl)
        · refine lv_iload hx hb dX4_winnerOf_52 (lv_at hl 1 rfl) ?_
          refine lv_istore_n (lv' := [(2, .int (nI i)), (5, .ref (g (400 + i))), (4, .int (nI i)), (3, .int x3), (0, .ref (g 0)), (1, .int (nI k))]) hx hb dX4_winnerOf_54 rfl hl (by decide) rfl (fun ls hl => ?_)
          refine lv_aload hx hb dX4_winnerOf_55 (lv_at hl 1 rfl) ?_
          refine m_get hx hb hts in_X4_winnerOf_X1 hown hK hM (CW.guest hw (i := i) (by omega)) rfl 4 (by decide) (by decide +kernel) rfl dX4_winnerOf_57 ?_
          refine lv_istore_n (lv' := [(3, .int (sGu σ i 4)), (2, .int (nI i)), (5, .ref (g (400 + i))), (4, .int (nI i)), (0, .ref (g 0)), (1, .int (nI k))]) hx hb dX4_winnerOf_60 rfl hl (by decide) rfl (fun ls hl => ?_)
          refine lv_iinc (v := nI (i + 1)) (lv' := [(4, .int (nI (i + 1))), (3, .int (sGu σ i 4)), (2, .int (nI i)), (5, .ref (g (400 + i))), (0, .ref (g 0)), (1, .int (nI k))]) hx hb dX4_winnerOf_61 hl (k := 3) rfl (m_inc _) (by decide) rfl (fun ls hl => ?_)
          refine lv_goto (tgt := 7) hx hb dX4_winnerOf_64 (by decide) ?_
          exact ih7 (i + 1) (by omega) _ (by simp only [wnA, c16, c40, c49, ← ex2, ← ex3, if_true, if_false, true_and, and_true, false_and, and_false, not_true_eq_false, not_false_eq_true, reduceCtorEq, eq_self_iff_true, and_self, Bool.false_eq_true, Bool.not_eq_true]) _ (by simp only [wnA, c16, c40, c49, ← ex2, ← ex3, if_true, if_false, true_and, and_true, false_and, and_false, not_true_eq_false, not_false_eq_true, reduceCtorEq, eq_self_iff_true, and_self, Bool.false_eq_true, Bool.not_eq_true]) ls (lv_sub hl [0, 2, 1, 4, 5] rfl)
  exact lp7 (kU σ) 0 (by omega) _ (rfl) _ (rfl) ls (lv_sub hl [0, 2, 1, 3, 4] rfl)
theorem in_X4_dueFor_X1 : ∀ w ∈ u_ws RX1 TX1 7, w ∈ wsX4_dueFor := by decide +kernel
theorem in_X4_dueFor_X2 : ∀ w ∈ u_ws RX2 TX2 6, w ∈ wsX4_dueFor := by decide +kernel
theorem in_X4_dueFor_X4 : ∀ w ∈ u_ws RX4 TX4 8, w ∈ wsX4_dueFor := by decide +kernel
set_option maxHeartbeats 4000000 in
set_option maxRecDepth 100000 in
theorem c_dueFor (l : Launch) (E : gE) (A : Nat → Prop) (g : Nat → Nat) (M : gM) (σ : Sg) (hv : VS σ) (hw : CW E g M σ) (hp : PW E M σ) (k : Nat) (hk : k < kR σ) (w : Int32) : Met l yX4_dueFor wsX4_dueFor ({ frames := 4, cells := 0, slots := 0, locals := 86 } : Room) (Pm E [.ref (g 0), .int (nI k), .int w] (mP E A g M)) (k2_QcV (.int (due σ k w))) 0 0 (fun _ => False) := by
  refine m_entry (by decide) rfl (Nat.le_of_ble_eq_true rfl) ?_
  intro p e s m args below meth c hx hb hr hml hts hown hlocks hin hM hK ls hl
  have hl : lv_has ls 6 [(0, .ref (g 0)), (1, .int (nI k)), (2, .int w)] := hl
  have hown : s.vm.findClass RX4 = some m.cls := hown
  obtain ⟨⟨hR9, hG9, hU9, hD9⟩, -⟩ := id hv
  obtain ⟨mc1, el1, h1, -⟩ := CW.LR hw
  obtain ⟨mc2, el2, h2, -⟩ := CW.LG hw
  obtain ⟨mc3, el3, h3, -⟩ := CW.LU hw
  refine lv_aload_n hx hb dX4_dueFor_0 rfl (lv_at hl 0 rfl) ?_
  refine lv_iload_n hx hb dX4_dueFor_1 rfl (lv_at hl 1 rfl) ?_
  refine m_cV 1 [.int (nI k)] [] hx hb hml hown hts hK (c_isRoomY l E A g M σ hv hw k (by omega)) gX4_dueFor_X4_isRoom rfl rfl rfl (by decide +kernel) rfl ⟨Nat.le_of_ble_eq_true rfl, Nat.le_of_ble_eq_true rfl⟩ hM (CW.x hw) rfl rfl hM hl.1 (Nat.le_of_ble_eq_true rfl) ⟨Nat.le_of_ble_eq_true rfl, Nat.le_of_ble_eq_true rfl⟩ rfl dX4_dueFor_2 ?_
  refine lv_if_eq (tgt := 13) hx hb dX4_dueFor_5 (by decide) (fun c9 => absurd c9 (by decide)) (fun c9 => ?_)
  refine lv_iload_n hx hb dX4_dueFor_8 rfl (lv_at hl 2 rfl) ?_
  refine lv_iconst (v := (-1)) hx hb dX4_dueFor_9 (by decide) ?_
  refine lv_icmp_ne (tgt := 15) hx hb dX4_dueFor_10 (by decide) (fun c10 => ?_) (fun c10 => ?_)
  · refine lv_aload_n hx hb dX4_dueFor_15 rfl (lv_at hl 0 rfl) ?_
    refine m_get hx hb hts in_X4_dueFor_X4 hown hK hM (CW.x hw) rfl 0 (by decide) (by decide +kernel) rfl dX4_dueFor_16 ?_
    refine lv_iload_n hx hb dX4_dueFor_19 rfl (lv_at hl 1 rfl) ?_
    refine m_cV 1 [.int (nI k)] [] hx hb hml hown hts hK (c_get l E A g M (CW.LR hw) (by omega) k (by omega)) gX4_dueFor_Jx4a65c_get_915e3 rfl rfl rfl (by decide +kernel) rfl ⟨Nat.le_of_ble_eq_true rfl, Nat.le_of_ble_eq_true rfl⟩ hM h1 rfl rfl hM hl.1 (Nat.le_of_ble_eq_true rfl) ⟨Nat.le_of_ble_eq_true rfl, Nat.le_of_ble_eq_true rfl⟩ rfl dX4_dueFor_20 ?_
    refine m_cast (ci := 3) hx hb hts hown (by decide +kernel) hK hM (CW.room hw (i := k) (by omega)) rfl dX4_dueFor_23 ?_
    refine m_get hx hb hts in_X4_dueFor_X2 hown hK hM (CW.room hw (i := k) (by omega)) rfl 1 (by decide) (by decide +kernel) rfl dX4_dueFor_26 ?_
    refine lv_istore_n (lv' := [(3, .int (sRm σ k 2)), (0, .ref (g 0)), (1, .int (nI k)), (2, .int w)]) hx hb dX4_dueFor_29 rfl hl (by decide) rfl (fun ls hl => ?_)
    refine lv_iconst (v := 0) hx hb dX4_dueFor_30 (by decide) ?_
    refine lv_istore (lv' := [(4, .int 0), (3, .int (sRm σ k 2)), (0, .ref (g 0)), (1, .int (nI k)), (2, .int w)]) hx hb dX4_dueFor_31 hl (by decide) rfl (fun ls hl => ?_)
    have lp33 : ∀ (n33 i : Nat), n33 + i = kU σ → ∀ x3 : Int32, x3 = duA σ k w i → ∀ ls : Array Slot, lv_has ls 6 [(4, .int (nI i)), (3, .int x3), (0, .ref (g 0)), (1, .int (nI k)), (2, .int w)] → W p l e ({ frames := 4, cells := 0, slots := 0, locals := 86 } : Room) s m args below meth c s.heap [] 0 0 (MQ below (k2_QcV (.int (due σ k w))) args s 0 0 (fun _ => False)) (F0 m 33 ls []) := by
      intro n33
      induction n33 with
      | zero =>
        intro i hi33 x3 ex3 ls hl
        obtain rfl : kU σ = i := by omega
        refine lv_iload hx hb dX4_dueFor_33 (lv_at hl 0 rfl) ?_
        refine lv_aload_n hx hb dX4_dueFor_35 rfl (lv_at hl 2 rfl) ?_
        refine m_get hx hb hts in_X4_dueFor_X4 hown hK hM (CW.x hw) rfl 2 (by decide) (by decide +kernel) rfl dX4_dueFor_36 ?_
        refine m_cV 0 [] [.int (nI (kU σ))] hx hb hml hown hts hK (c_size l E A g M (CW.LU hw)) gX4_dueFor_Jx4a65c_size_8abf5 rfl rfl rfl (by decide +kernel) rfl ⟨Nat.le_of_ble_eq_true rfl, Nat.le_of_ble_eq_true rfl⟩ hM h3 rfl rfl hM hl.1 (Nat.le_of_ble_eq_true rfl) ⟨Nat.le_of_ble_eq_true rfl, Nat.le_of_ble_eq_true rfl⟩ rfl dX4_dueFor_39 ?_
        refine lv_icmp_ge (tgt := 91) hx hb dX4_dueFor_42 (by decide) (fun c42 => ?_) (fun c9 => absurd (Int32.le_refl _) c9)
        refine lv_iload_n hx hb dX4_dueFor_91 rfl (lv_at hl 1 rfl) ?_
        exact r_i hx hb hr hlocks dX4_dueFor_92 (by rw [due, if_neg c10, ← ex3])
      | succ n33 ih33 =>
        intro i hi33 x3 ex3 ls hl
        have hlt33 : i < kU σ := by omega
        refine lv_iload hx hb dX4_dueFor_33 (lv_at hl 0 rfl) ?_
        refine lv_aload_n hx hb dX4_dueFor_35 rfl (lv_at hl 2 rfl) ?_
        refine m_get hx hb hts in_X4_dueFor_X4 hown hK hM (CW.x hw) rfl 2 (by decide) (by decide +kernel) rfl dX4_dueFor_36 ?_
        refine m_cV 0 [] [.int (nI i)] hx hb hml hown hts hK (c_size l E A g M (CW.LU hw)) gX4_dueFor_Jx4a65c_size_8abf5 rfl rfl rfl (by decide +kernel) rfl ⟨Nat.le_of_ble_eq_true rfl, Nat.le_of_ble_eq_true rfl⟩ hM h3 rfl rfl hM hl.1 (Nat.le_of_ble_eq_true rfl) ⟨Nat.le_of_ble_eq_true rfl, Nat.le_of_ble_eq_true rfl⟩ rfl dX4_dueFor_39 ?_
        refine lv_icmp_ge (tgt := 91) hx hb dX4_dueFor_42 (by decide) (fun c9 => absurd c9 (nI_ge hlt33 (by omega))) (fun c42 => ?_)
        refine lv_aload_n hx hb dX4_dueFor_45 rfl (lv_at hl 2 rfl) ?_
        refine m_get hx hb hts in_X4_dueFor_X4 hown hK hM (CW.x hw) rfl 2 (by decide) (by decide +kernel) rfl dX4_dueFor_46 ?_
        refine lv_iload hx hb dX4_dueFor_49 (lv_at hl 0 rfl) ?_
        refine m_cV 1 [.int (nI i)] [] hx hb hml hown hts hK (c_get l E A g M (CW.LU hw) (by omega) i (by omega)) gX4_dueFor_Jx4a65c_get_915e3 rfl rfl rfl (by decide +kernel) rfl ⟨Nat.le_of_ble_eq_true rfl, Nat.le_of_ble_eq_true rfl⟩ hM h3 rfl rfl hM hl.1 (Nat.le_of_ble_eq_true rfl) ⟨Nat.le_of_ble_eq_true rfl, Nat.le_of_ble_eq_true rfl⟩ rfl dX4_dueFor_51 ?_
        refine m_cast (ci := 2) hx hb hts hown (by decide +kernel) hK hM (CW.guest hw (i := i) (by omega)) rfl dX4_dueFor_54 ?_
        refine lv_astore (lv' := [(5, .ref (g (400 + i))), (4, .int (nI i)), (3, .int x3), (0, .ref (g 0)), (1, .int (nI k)), (2, .int w)]) hx hb dX4_dueFor_57 hl (by decide) rfl (fun ls hl => ?_)
        refine lv_iload hx hb dX4_dueFor_59 (lv_at hl 1 rfl) ?_
        refine lv_iload_n hx hb dX4_dueFor_61 rfl (lv_at hl 5 rfl) ?_
        refine lv_icmp_eq (tgt := 85) hx hb dX4_dueFor_62 (by decide) (fun c62 => ?_) (fun c62 => ?_)
        · refine lv_iinc (v := nI (i + 1)) (lv' := [(4, .int (nI (i + 1))), (5, .ref (g (400 + i))), (3, .int x3), (0, .ref (g 0)), (1, .int (nI k)), (2, .int w)]) hx hb dX4_dueFor_85 hl (k := 1) rfl (m_inc _) (by decide) rfl (fun ls hl => ?_)
          refine lv_goto (tgt := 33) hx hb dX4_dueFor_88 (by decide) ?_
          exact ih33 (i + 1) (by omega) _ (by simp only [duA, c10, c42, c62, ← ex3, if_true, if_false, true_and, and_true, false_and, and_false, not_true_eq_false, not_false_eq_true, reduceCtorEq, eq_self_iff_true, and_self, Bool.false_eq_true, Bool.not_eq_true]) ls (lv_sub hl [0, 2, 3, 4, 5] rfl)
        · refine lv_aload_n hx hb dX4_dueFor_65 rfl (lv_at hl 3 rfl) ?_
          refine lv_aload hx hb dX4_dueFor_66 (lv_at hl 0 rfl) ?_
          refine lv_iload_n hx hb dX4_dueFor_68 rfl (lv_at hl 4 rfl) ?_
          refine m_cV 2 [.ref (g (400 + i)), .int (nI k)] [] hx hb hml hown hts hK (c_countsFor l E A g M σ hv hw hp i k (by omega) (by omega)) gX4_dueFor_X4_countsFor rfl rfl rfl (by decide +kernel) rfl ⟨Nat.le_of_ble_eq_true rfl, Nat.le_of_ble_eq_true rfl⟩ hM (CW.x hw) rfl rfl hM hl.1 (Nat.le_of_ble_eq_true rfl) ⟨Nat.le_of_ble_eq_true rfl, Nat.le_of_ble_eq_true rfl⟩ rfl dX4_dueFor_69 ?_
          refine lv_if_eq (tgt := 85) hx hb dX4_dueFor_72 (by decide) (fun c72 => ?_) (fun c72 => ?_)
          · have c72 := bI_f c72
            refine lv_iinc (v := nI (i + 1)) (lv' := [(4, .int (nI (i + 1))), (5, .ref (g (400 + i))), (3, .int x3), (0, .ref (g 0)), (1, .int (nI k)), (2, .int w)]) hx hb dX4_dueFor_85 hl (k := 1) rfl (m_inc _) (by decide) rfl (fun ls hl => ?_)
            refine lv_goto (tgt := 33) hx hb dX4_dueFor_88 (by decide) ?_
            exact ih33 (i + 1) (by omega) _ (by simp only [duA, c10, c42, c62, c72, ← ex3, if_true, if_false, true_and, and_true, false_and, and_false, not_true_eq_false, not_false_eq_true, reduceCtorEq, eq_self_iff_true, and_self, Bool.false_eq_true, Bool.not_eq_true]) ls (lv_sub hl [0, 2, 3, 4, 5] rfl)
          · have c72 := bI_t c72
            refine lv_iload_n hx hb dX4_dueFor_75 rfl (lv_at hl 2 rfl) ?_
            refine lv_aload hx hb dX4_dueFor_76 (lv_at hl 0 rfl) ?_
            refine m_get hx hb hts in_X4_dueFor_X1 hown hK hM (CW.guest hw (i := i) (by omega)) rfl 4 (by decide) (by decide +kernel) rfl dX4_dueFor_78 ?_
            refine va_mmax hx hb (hml.trans hl.1.symm) hown (hts (.methodLink RX4 282 Lib.Math.max.name) (by decide +kernel)) (hts (.static Lib.Math.max.name) (by decide +kernel)) (hts (.initialized "java/lang/Math") (by decide +kernel)) (hts (.code Lib.Math.max.name Lib.Math.max.code 2 (some .int)) (by decide +kernel)) (Nat.le_of_ble_eq_true rfl) (Nat.le_of_ble_eq_true rfl) (Nat.zero_le _) (Nat.zero_le _) dX4_dueFor_81 ?_
            refine lv_istore_n (lv' := [(3, .int (if x3 < (sGu σ i 4) then (sGu σ i 4) else x3)), (5, .ref (g (400 + i))), (4, .int (nI i)), (0, .ref (g 0)), (1, .int (nI k)), (2, .int w)]) hx hb dX4_dueFor_84 rfl hl (by decide) rfl (fun ls hl => ?_)
            refine lv_iinc (v := nI (i + 1)) (lv' := [(4, .int (nI (i + 1))), (3, .int (if x3 < (sGu σ i 4) then (sGu σ i 4) else x3)), (5, .ref (g (400 + i))), (0, .ref (g 0)), (1, .int (nI k)), (2, .int w)]) hx hb dX4_dueFor_85 hl (k := 2) rfl (m_inc _) (by decide) rfl (fun ls hl => ?_)
            refine lv_goto (tgt := 33) hx hb dX4_dueFor_88 (by decide) ?_
            exact ih33 (i + 1) (by omega) _ (by simp only [duA, c10, c42, c62, c72, ← ex3, if_true, if_false, true_and, and_true, false_and, and_false, not_true_eq_false, not_false_eq_true, reduceCtorEq, eq_self_iff_true, and_self, Bool.false_eq_true, Bool.not_eq_true]) ls (lv_sub hl [0, 1, 3, 4, 5] rfl)
    exact lp33 (kU σ) 0 (by omega) _ (rfl) ls (lv_sub hl [0, 1, 2, 3, 4] rfl)
  · refine lv_iconst (v := 0) hx hb dX4_dueFor_13 (by decide) ?_
    exact r_i hx hb hr hlocks dX4_dueFor_14 (by rw [due, if_pos c10])
theorem in_X4_bidsThatCount_X4 : ∀ w ∈ u_ws RX4 TX4 8, w ∈ wsX4_bidsThatCount := by decide +kernel
set_option maxHeartbeats 4000000 in
set_option maxRecDepth 100000 in
theorem c_bidsThatCount (l : Launch) (E : gE) (A : Nat → Prop) (g : Nat → Nat) (M : gM) (σ : Sg) (hv : VS σ) (hw : CW E g M σ) (hp : PW E M σ) (k : Nat) (hk : k < kR σ) : Met l yX4_bidsThatCount wsX4_bidsThatCount ({ frames := 4, cells := 0, slots := 0, locals := 86 } : Room) (Pm E [.ref (g 0), .int (nI k)] (mP E A g M)) (k2_QcV (.int (bcA σ k (kU σ)))) 0 0 (fun _ => False) := by
  refine m_entry (by decide) rfl (Nat.le_of_ble_eq_true rfl) ?_
  intro p e s m args below meth c hx hb hr hml hts hown hlocks hin hM hK ls hl
  have hl : lv_has ls 4 [(0, .ref (g 0)), (1, .int (nI k))] := hl
  have hown : s.vm.findClass RX4 = some m.cls := hown
  obtain ⟨⟨hR9, hG9, hU9, hD9⟩, -⟩ := id hv
  obtain ⟨mc1, el1, h1, -⟩ := CW.LR hw
  obtain ⟨mc2, el2, h2, -⟩ := CW.LG hw
  obtain ⟨mc3, el3, h3, -⟩ := CW.LU hw
  refine lv_iconst (v := 0) hx hb dX4_bidsThatCount_0 (by decide) ?_
  refine lv_istore_n (lv' := [(2, .int 0), (0, .ref (g 0)), (1, .int (nI k))]) hx hb dX4_bidsThatCount_1 rfl hl (by decide) rfl (fun ls hl => ?_)
  refine lv_iconst (v := 0) hx hb dX4_bidsThatCount_2 (by decide) ?_
  refine lv_istore_n (lv' := [(3, .int 0), (2, .int 0), (0, .ref (g 0)), (1, .int (nI k))]) hx hb dX4_bidsThatCount_3 rfl hl (by decide) rfl (fun ls hl => ?_)
  have lp4 : ∀ (n4 i : Nat), n4 + i = kU σ → ∀ x2 : Int32, x2 = bcA σ k i → ∀ ls : Array Slot, lv_has ls 4 [(3, .int (nI i)), (2, .int x2), (0, .ref (g 0)), (1, .int (nI k))] → W p l e ({ frames := 4, cells := 0, slots := 0, locals := 86 } : Room) s m args below meth c s.heap [] 0 0 (MQ below (k2_QcV (.int (bcA σ k (kU σ)))) args s 0 0 (fun _ => False)) (F0 m 4 ls []) := by
    intro n4
    induction n4 with
    | zero =>
      intro i hi4 x2 ex2 ls hl
      obtain rfl : kU σ = i := by omega
      refine lv_iload_n hx hb dX4_bidsThatCount_4 rfl (lv_at hl 0 rfl) ?_
      refine lv_aload_n hx hb dX4_bidsThatCount_5 rfl (lv_at hl 2 rfl) ?_
      refine m_get hx hb hts in_X4_bidsThatCount_X4 hown hK hM (CW.x hw) rfl 2 (by decide) (by decide +kernel) rfl dX4_bidsThatCount_6 ?_
      refine m_cV 0 [] [.int (nI (kU σ))] hx hb hml hown hts hK (c_size l E A g M (CW.LU hw)) gX4_bidsThatCount_Jx4a65c_size_8abf5 rfl rfl rfl (by decide +kernel) rfl ⟨Nat.le_of_ble_eq_true rfl, Nat.le_of_ble_eq_true rfl⟩ hM h3 rfl rfl hM hl.1 (Nat.le_of_ble_eq_true rfl) ⟨Nat.le_of_ble_eq_true rfl, Nat.le_of_ble_eq_true rfl⟩ rfl dX4_bidsThatCount_9 ?_
      refine lv_icmp_ge (tgt := 43) hx hb dX4_bidsThatCount_12 (by decide) (fun c12 => ?_) (fun c9 => absurd (Int32.le_refl _) c9)
      refine lv_iload_n hx hb dX4_bidsThatCount_43 rfl (lv_at hl 1 rfl) ?_
      exact r_i hx hb hr hlocks dX4_bidsThatCount_44 (by first | rfl | assumption)
    | succ n4 ih4 =>
      intro i hi4 x2 ex2 ls hl
      have hlt4 : i < kU σ := by omega
      refine lv_iload_n hx hb dX4_bidsThatCount_4 rfl (lv_at hl 0 rfl) ?_
      refine lv_aload_n hx hb dX4_bidsThatCount_5 rfl (lv_at hl 2 rfl) ?_
      refine m_get hx hb hts in_X4_bidsThatCount_X4 hown hK hM (CW.x hw) rfl 2 (by decide) (by decide +kernel) rfl dX4_bidsThatCount_6 ?_
      refine m_cV 0 [] [.int (nI i)] hx hb hml hown hts hK (c_size l E A g M (CW.LU hw)) gX4_bidsThatCount_Jx4a65c_size_8abf5 rfl rfl rfl (by decide +kernel) rfl ⟨Nat.le_of_ble_eq_true rfl, Nat.le_of_ble_eq_true rfl⟩ hM h3 rfl rfl hM hl.1 (Nat.le_of_ble_eq_true rfl) ⟨Nat.le_of_ble_eq_true rfl, Nat.le_of_ble_eq_true rfl⟩ rfl dX4_bidsThatCount_9 ?_
      refine lv_icmp_ge (tgt := 43) hx hb dX4_bidsThatCount_12 (by decide) (fun c9 => absurd c9 (nI_ge hlt4 (by omega))) (fun c12 => ?_)
      refine lv_aload_n hx hb dX4_bidsThatCount_15 rfl (lv_at hl 2 rfl) ?_
      refine lv_aload_n hx hb dX4_bidsThatCount_16 rfl (lv_at hl 2 rfl) ?_
      refine m_get hx hb hts in_X4_bidsThatCount_X4 hown hK hM (CW.x hw) rfl 2 (by decide) (by decide +kernel) rfl dX4_bidsThatCount_17 ?_
      refine lv_iload_n hx hb dX4_bidsThatCount_20 rfl (lv_at hl 0 rfl) ?_
      refine m_cV 1 [.int (nI i)] [.ref (g 0)] hx hb hml hown hts hK (c_get l E A g M (CW.LU hw) (by omega) i (by omega)) gX4_bidsThatCount_Jx4a65c_get_915e3 rfl rfl rfl (by decide +kernel) rfl ⟨Nat.le_of_ble_eq_true rfl, Nat.le_of_ble_eq_true rfl⟩ hM h3 rfl rfl hM hl.1 (Nat.le_of_ble_eq_true rfl) ⟨Nat.le_of_ble_eq_true rfl, Nat.le_of_ble_eq_true rfl⟩ rfl dX4_bidsThatCount_21 ?_
      refine m_cast (ci := 2) hx hb hts hown (by decide +kernel) hK hM (CW.guest hw (i := i) (by omega)) rfl dX4_bidsThatCount_24 ?_
      refine lv_iload_n hx hb dX4_bidsThatCount_27 rfl (lv_at hl 3 rfl) ?_
      refine m_cV 2 [.ref (g (400 + i)), .int (nI k)] [] hx hb hml hown hts hK (c_countsFor l E A g M σ hv hw hp i k (by omega) (by omega)) gX4_bidsThatCount_X4_countsFor rfl rfl rfl (by decide +kernel) rfl ⟨Nat.le_of_ble_eq_true rfl, Nat.le_of_ble_eq_true rfl⟩ hM (CW.x hw) rfl rfl hM hl.1 (Nat.le_of_ble_eq_true rfl) ⟨Nat.le_of_ble_eq_true rfl, Nat.le_of_ble_eq_true rfl⟩ rfl dX4_bidsThatCount_28 ?_
      refine lv_if_eq (tgt := 37) hx hb dX4_bidsThatCount_31 (by decide) (fun c31 => ?_) (fun c31 => ?_)
      · have c31 := bI_f c31
        refine lv_iinc (v := nI (i + 1)) (lv' := [(3, .int (nI (i + 1))), (2, .int x2), (0, .ref (g 0)), (1, .int (nI k))]) hx hb dX4_bidsThatCount_37 hl (k := 0) rfl (m_inc _) (by decide) rfl (fun ls hl => ?_)
        refine lv_goto (tgt := 4) hx hb dX4_bidsThatCount_40 (by decide) ?_
        exact ih4 (i + 1) (by omega) _ (by simp only [bcA, c12, c31, ← ex2, if_true, if_false, true_and, and_true, false_and, and_false, not_true_eq_false, not_false_eq_true, reduceCtorEq, eq_self_iff_true, and_self, Bool.false_eq_true, Bool.not_eq_true]) ls (lv_sub hl [0, 1, 2, 3] rfl)
      · have c31 := bI_t c31
        refine lv_iinc (v := x2 + 1) (lv' := [(2, .int (x2 + 1)), (3, .int (nI i)), (0, .ref (g 0)), (1, .int (nI k))]) hx hb dX4_bidsThatCount_34 hl (k := 1) rfl (by first | rfl | decide) (by decide) rfl (fun ls hl => ?_)
        refine lv_iinc (v := nI (i + 1)) (lv' := [(3, .int (nI (i + 1))), (2, .int (x2 + 1)), (0, .ref (g 0)), (1, .int (nI k))]) hx hb dX4_bidsThatCount_37 hl (k := 1) rfl (m_inc _) (by decide) rfl (fun ls hl => ?_)
        refine lv_goto (tgt := 4) hx hb dX4_bidsThatCount_40 (by decide) ?_
        exact ih4 (i + 1) (by omega) _ (by simp only [bcA, c12, c31, ← ex2, if_true, if_false, true_and, and_true, false_and, and_false, not_true_eq_false, not_false_eq_true, reduceCtorEq, eq_self_iff_true, and_self, Bool.false_eq_true, Bool.not_eq_true]) ls (lv_sub hl [0, 1, 2, 3] rfl)
  exact lp4 (kU σ) 0 (by omega) _ (rfl) ls (lv_sub hl [0, 1, 2, 3] rfl)
theorem in_X4_bidsWritten_X4 : ∀ w ∈ u_ws RX4 TX4 8, w ∈ wsX4_bidsWritten := by decide +kernel
set_option maxHeartbeats 4000000 in
set_option maxRecDepth 100000 in
theorem c_bidsWritten (l : Launch) (E : gE) (A : Nat → Prop) (g : Nat → Nat) (M : gM) (σ : Sg) (hv : VS σ) (hw : CW E g M σ) (hp : PW E M σ)  : Met l yX4_bidsWritten wsX4_bidsWritten ({ frames := 3, cells := 0, slots := 0, locals := 64 } : Room) (Pm E [.ref (g 0)] (mP E A g M)) (k2_QcV (.int (bwA σ (kU σ)))) 0 0 (fun _ => False) := by
  refine m_entry (by decide) rfl (Nat.le_of_ble_eq_true rfl) ?_
  intro p e s m args below meth c hx hb hr hml hts hown hlocks hin hM hK ls hl
  have hl : lv_has ls 3 [(0, .ref (g 0))] := hl
  have hown : s.vm.findClass RX4 = some m.cls := hown
  obtain ⟨⟨hR9, hG9, hU9, hD9⟩, -⟩ := id hv
  obtain ⟨mc1, el1, h1, -⟩ := CW.LR hw
  obtain ⟨mc2, el2, h2, -⟩ := CW.LG hw
  obtain ⟨mc3, el3, h3, -⟩ := CW.LU hw
  refine lv_iconst (v := 0) hx hb dX4_bidsWritten_0 (by decide) ?_
  refine lv_istore_n (lv' := [(1, .int 0), (0, .ref (g 0))]) hx hb dX4_bidsWritten_1 rfl hl (by decide) rfl (fun ls hl => ?_)
  refine lv_iconst (v := 0) hx hb dX4_bidsWritten_2 (by decide) ?_
  refine lv_istore_n (lv' := [(2, .int 0), (1, .int 0), (0, .ref (g 0))]) hx hb dX4_bidsWritten_3 rfl hl (by decide) rfl (fun ls hl => ?_)
  have lp4 : ∀ (n4 i : Nat), n4 + i = kU σ → ∀ x1 : Int32, x1 = bwA σ i → ∀ ls : Array Slot, lv_has ls 3 [(2, .int (nI i)), (1, .int x1), (0, .ref (g 0))] → W p l e ({ frames := 3, cells := 0, slots := 0, locals := 64 } : Room) s m args below meth c s.heap [] 0 0 (MQ below (k2_QcV (.int (bwA σ (kU σ)))) args s 0 0 (fun _ => False)) (F0 m 4 ls []) := by
    intro n4
    induction n4 with
    | zero =>
      intro i hi4 x1 ex1 ls hl
      obtain rfl : kU σ = i := by omega
      refine lv_iload_n hx hb dX4_bidsWritten_4 rfl (lv_at hl 0 rfl) ?_
      refine lv_aload_n hx hb dX4_bidsWritten_5 rfl (lv_at hl 2 rfl) ?_
      refine m_get hx hb hts in_X4_bidsWritten_X4 hown hK hM (CW.x hw) rfl 2 (by decide) (by decide +kernel) rfl dX4_bidsWritten_6 ?_
      refine m_cV 0 [] [.int (nI (kU σ))] hx hb hml hown hts hK (c_size l E A g M (CW.LU hw)) gX4_bidsWritten_Jx4a65c_size_8abf5 rfl rfl rfl (by decide +kernel) rfl ⟨Nat.le_of_ble_eq_true rfl, Nat.le_of_ble_eq_true rfl⟩ hM h3 rfl rfl hM hl.1 (Nat.le_of_ble_eq_true rfl) ⟨Nat.le_of_ble_eq_true rfl, Nat.le_of_ble_eq_true rfl⟩ rfl dX4_bidsWritten_9 ?_
      refine lv_icmp_ge (tgt := 41) hx hb dX4_bidsWritten_12 (by decide) (fun c12 => ?_) (fun c9 => absurd (Int32.le_refl _) c9)
      refine lv_iload_n hx hb dX4_bidsWritten_41 rfl (lv_at hl 1 rfl) ?_
      exact r_i hx hb hr hlocks dX4_bidsWritten_42 (by first | rfl | assumption)
    | succ n4 ih4 =>
      intro i hi4 x1 ex1 ls hl
      have hlt4 : i < kU σ := by omega
      refine lv_iload_n hx hb dX4_bidsWritten_4 rfl (lv_at hl 0 rfl) ?_
      refine lv_aload_n hx hb dX4_bidsWritten_5 rfl (lv_at hl 2 rfl) ?_
      refine m_get hx hb hts in_X4_bidsWritten_X4 hown hK hM (CW.x hw) rfl 2 (by decide) (by decide +kernel) rfl dX4_bidsWritten_6 ?_
      refine m_cV 0 [] [.int (nI i)] hx hb hml hown hts hK (c_size l E A g M (CW.LU hw)) gX4_bidsWritten_Jx4a65c_size_8abf5 rfl rfl rfl (by decide +kernel) rfl ⟨Nat.le_of_ble_eq_true rfl, Nat.le_of_ble_eq_true rfl⟩ hM h3 rfl rfl hM hl.1 (Nat.le_of_ble_eq_true rfl) ⟨Nat.le_of_ble_eq_true rfl, Nat.le_of_ble_eq_true rfl⟩ rfl dX4_bidsWritten_9 ?_
      refine lv_icmp_ge (tgt := 41) hx hb dX4_bidsWritten_12 (by decide) (fun c9 => absurd c9 (nI_ge hlt4 (by omega))) (fun c12 => ?_)
      refine lv_aload_n hx hb dX4_bidsWritten_15 rfl (lv_at hl 2 rfl) ?_
      refine m_get hx hb hts in_X4_bidsWritten_X4 hown hK hM (CW.x hw) rfl 2 (by decide) (by decide +kernel) rfl dX4_bidsWritten_16 ?_
      refine lv_iload_n hx hb dX4_bidsWritten_19 rfl (lv_at hl 0 rfl) ?_
      refine m_cV 1 [.int (nI i)] [] hx hb hml hown hts hK (c_get l E A g M (CW.LU hw) (by omega) i (by omega)) gX4_bidsWritten_Jx4a65c_get_915e3 rfl rfl rfl (by decide +kernel) rfl ⟨Nat.le_of_ble_eq_true rfl, Nat.le_of_ble_eq_true rfl⟩ hM h3 rfl rfl hM hl.1 (Nat.le_of_ble_eq_true rfl) ⟨Nat.le_of_ble_eq_true rfl, Nat.le_of_ble_eq_true rfl⟩ rfl dX4_bidsWritten_20 ?_
      refine m_cast (ci := 2) hx hb hts hown (by decide +kernel) hK hM (CW.guest hw (i := i) (by omega)) rfl dX4_bidsWritten_23 ?_
      refine m_cV 0 [] [] hx hb hml hown hts hK (c_hasBid l E A g M (400 + i) (sGu σ i 1) (sGu σ i 0) (sGu σ i 2) (sGu σ i 3) (sGu σ i 4) (sGu σ i 5) (sGu σ i 6) (CW.guest hw (by omega))) gX4_bidsWritten_X1_hasBid rfl rfl rfl (by decide +kernel) rfl ⟨Nat.le_of_ble_eq_true rfl, Nat.le_of_ble_eq_true rfl⟩ hM (CW.guest hw (i := i) (by omega)) rfl rfl hM hl.1 (Nat.le_of_ble_eq_true rfl) ⟨Nat.le_of_ble_eq_true rfl, Nat.le_of_ble_eq_true rfl⟩ rfl dX4_bidsWritten_26 ?_
      refine lv_if_eq (tgt := 35) hx hb dX4_bidsWritten_29 (by decide) (fun c29 => ?_) (fun c29 => ?_)
      · have c29 := of_decide_eq_false (bI_f c29)
        have c29 := Classical.not_not.mp c29
        refine lv_iinc (v := nI (i + 1)) (lv' := [(2, .int (nI (i + 1))), (1, .int x1), (0, .ref (g 0))]) hx hb dX4_bidsWritten_35 hl (k := 0) rfl (m_inc _) (by decide) rfl (fun ls hl => ?_)
        refine lv_goto (tgt := 4) hx hb dX4_bidsWritten_38 (by decide) ?_
        exact ih4 (i + 1) (by omega) _ (by simp only [bwA, c12, c29, ← ex1, if_true, if_false, true_and, and_true, false_and, and_false, not_true_eq_false, not_false_eq_true, reduceCtorEq, eq_self_iff_true, and_self, Bool.false_eq_true, Bool.not_eq_true]) ls (lv_sub hl [0, 1, 2] rfl)
      · have c29 := of_decide_eq_true (bI_t c29)
        refine lv_iinc (v := x1 + 1) (lv' := [(1, .int (x1 + 1)), (2, .int (nI i)), (0, .ref (g 0))]) hx hb dX4_bidsWritten_32 hl (k := 1) rfl (by first | rfl | decide) (by decide) rfl (fun ls hl => ?_)
        refine lv_iinc (v := nI (i + 1)) (lv' := [(2, .int (nI (i + 1))), (1, .int (x1 + 1)), (0, .ref (g 0))]) hx hb dX4_bidsWritten_35 hl (k := 1) rfl (m_inc _) (by decide) rfl (fun ls hl => ?_)
        refine lv_goto (tgt := 4) hx hb dX4_bidsWritten_38 (by decide) ?_
        exact ih4 (i + 1) (by omega) _ (by simp only [bwA, c12, c29, ← ex1, if_true, if_false, true_and, and_true, false_and, and_false, not_true_eq_false, not_false_eq_true, reduceCtorEq, eq_self_iff_true, and_self, Bool.false_eq_true, Bool.not_eq_true]) ls (lv_sub hl [0, 1, 2] rfl)
  exact lp4 (kU σ) 0 (by omega) _ (rfl) ls (lv_sub hl [0, 1, 2] rfl)
theorem in_X4_roomsToLet_X4 : ∀ w ∈ u_ws RX4 TX4 8, w ∈ wsX4_roomsToLet := by decide +kernel
set_option maxHeartbeats 4000000 in
set_option maxRecDepth 100000 in
theorem c_roomsToLet (l : Launch) (E : gE) (A : Nat → Prop) (g : Nat → Nat) (M : gM) (σ : Sg) (hv : VS σ) (hw : CW E g M σ) (hp : PW E M σ)  : Met l yX4_roomsToLet wsX4_roomsToLet ({ frames := 5, cells := 0, slots := 0, locals := 111 } : Room) (Pm E [.ref (g 0)] (mP E A g M)) (k2_QcV (.int (rtA σ (kR σ)))) 0 0 (fun _ => False) := by
  refine m_entry (by decide) rfl (Nat.le_of_ble_eq_true rfl) ?_
  intro p e s m args below meth c hx hb hr hml hts hown hlocks hin hM hK ls hl
  have hl : lv_has ls 3 [(0, .ref (g 0))] := hl
  have hown : s.vm.findClass RX4 = some m.cls := hown
  obtain ⟨⟨hR9, hG9, hU9, hD9⟩, -⟩ := id hv
  obtain ⟨mc1, el1, h1, -⟩ := CW.LR hw
  obtain ⟨mc2, el2, h2, -⟩ := CW.LG hw
  obtain ⟨mc3, el3, h3, -⟩ := CW.LU hw
  refine lv_iconst (v := 0) hx hb dX4_roomsToLet_0 (by decide) ?_
  refine lv_istore_n (lv' := [(1, .int 0), (0, .ref (g 0))]) hx hb dX4_roomsToLet_1 rfl hl (by decide) rfl (fun ls hl => ?_)
  refine lv_iconst (v := 0) hx hb dX4_roomsToLet_2 (by decide) ?_
  refine lv_istore_n (lv' := [(2, .int 0), (1, .int 0), (0, .ref (g 0))]) hx hb dX4_roomsToLet_3 rfl hl (by decide) rfl (fun ls hl => ?_)
  have lp4 : ∀ (n4 i : Nat), n4 + i = kR σ → ∀ x1 : Int32, x1 = rtA σ i → ∀ ls : Array Slot, lv_has ls 3 [(2, .int (nI i)), (1, .int x1), (0, .ref (g 0))] → W p l e ({ frames := 5, cells := 0, slots := 0, locals := 111 } : Room) s m args below meth c s.heap [] 0 0 (MQ below (k2_QcV (.int (rtA σ (kR σ)))) args s 0 0 (fun _ => False)) (F0 m 4 ls []) := by
    intro n4
    induction n4 with
    | zero =>
      intro i hi4 x1 ex1 ls hl
      obtain rfl : kR σ = i := by omega
      refine lv_iload_n hx hb dX4_roomsToLet_4 rfl (lv_at hl 0 rfl) ?_
      refine lv_aload_n hx hb dX4_roomsToLet_5 rfl (lv_at hl 2 rfl) ?_
      refine m_get hx hb hts in_X4_roomsToLet_X4 hown hK hM (CW.x hw) rfl 0 (by decide) (by decide +kernel) rfl dX4_roomsToLet_6 ?_
      refine m_cV 0 [] [.int (nI (kR σ))] hx hb hml hown hts hK (c_size l E A g M (CW.LR hw)) gX4_roomsToLet_Jx4a65c_size_8abf5 rfl rfl rfl (by decide +kernel) rfl ⟨Nat.le_of_ble_eq_true rfl, Nat.le_of_ble_eq_true rfl⟩ hM h1 rfl rfl hM hl.1 (Nat.le_of_ble_eq_true rfl) ⟨Nat.le_of_ble_eq_true rfl, Nat.le_of_ble_eq_true rfl⟩ rfl dX4_roomsToLet_9 ?_
      refine lv_icmp_ge (tgt := 33) hx hb dX4_roomsToLet_12 (by decide) (fun c12 => ?_) (fun c9 => absurd (Int32.le_refl _) c9)
      refine lv_iload_n hx hb dX4_roomsToLet_33 rfl (lv_at hl 1 rfl) ?_
      exact r_i hx hb hr hlocks dX4_roomsToLet_34 (by first | rfl | assumption)
    | succ n4 ih4 =>
      intro i hi4 x1 ex1 ls hl
      have hlt4 : i < kR σ := by omega
      refine lv_iload_n hx hb dX4_roomsToLet_4 rfl (lv_at hl 0 rfl) ?_
      refine lv_aload_n hx hb dX4_roomsToLet_5 rfl (lv_at hl 2 rfl) ?_
      refine m_get hx hb hts in_X4_roomsToLet_X4 hown hK hM (CW.x hw) rfl 0 (by decide) (by decide +kernel) rfl dX4_roomsToLet_6 ?_
      refine m_cV 0 [] [.int (nI i)] hx hb hml hown hts hK (c_size l E A g M (CW.LR hw)) gX4_roomsToLet_Jx4a65c_size_8abf5 rfl rfl rfl (by decide +kernel) rfl ⟨Nat.le_of_ble_eq_true rfl, Nat.le_of_ble_eq_true rfl⟩ hM h1 rfl rfl hM hl.1 (Nat.le_of_ble_eq_true rfl) ⟨Nat.le_of_ble_eq_true rfl, Nat.le_of_ble_eq_true rfl⟩ rfl dX4_roomsToLet_9 ?_
      refine lv_icmp_ge (tgt := 33) hx hb dX4_roomsToLet_12 (by decide) (fun c9 => absurd c9 (nI_ge hlt4 (by omega))) (fun c12 => ?_)
      refine lv_aload_n hx hb dX4_roomsToLet_15 rfl (lv_at hl 2 rfl) ?_
      refine lv_iload_n hx hb dX4_roomsToLet_16 rfl (lv_at hl 0 rfl) ?_
      refine m_cV 1 [.int (nI i)] [] hx hb hml hown hts hK (c_winnerOf l E A g M σ hv hw hp i (by omega)) gX4_roomsToLet_X4_winnerOf rfl rfl rfl (by decide +kernel) rfl ⟨Nat.le_of_ble_eq_true rfl, Nat.le_of_ble_eq_true rfl⟩ hM (CW.x hw) rfl rfl hM hl.1 (Nat.le_of_ble_eq_true rfl) ⟨Nat.le_of_ble_eq_true rfl, Nat.le_of_ble_eq_true rfl⟩ rfl dX4_roomsToLet_17 ?_
      refine lv_iconst (v := (-1)) hx hb dX4_roomsToLet_20 (by decide) ?_
      refine lv_icmp_eq (tgt := 27) hx hb dX4_roomsToLet_21 (by decide) (fun c21 => ?_) (fun c21 => ?_)
      · refine lv_iinc (v := nI (i + 1)) (lv' := [(2, .int (nI (i + 1))), (1, .int x1), (0, .ref (g 0))]) hx hb dX4_roomsToLet_27 hl (k := 0) rfl (m_inc _) (by decide) rfl (fun ls hl => ?_)
        refine lv_goto (tgt := 4) hx hb dX4_roomsToLet_30 (by decide) ?_
        exact ih4 (i + 1) (by omega) _ (by simp only [rtA, c12, c21, ← ex1, if_true, if_false, true_and, and_true, false_and, and_false, not_true_eq_false, not_false_eq_true, reduceCtorEq, eq_self_iff_true, and_self, Bool.false_eq_true, Bool.not_eq_true]) ls (lv_sub hl [0, 1, 2] rfl)
      · refine lv_iinc (v := x1 + 1) (lv' := [(1, .int (x1 + 1)), (2, .int (nI i)), (0, .ref (g 0))]) hx hb dX4_roomsToLet_24 hl (k := 1) rfl (by first | rfl | decide) (by decide) rfl (fun ls hl => ?_)
        refine lv_iinc (v := nI (i + 1)) (lv' := [(2, .int (nI (i + 1))), (1, .int (x1 + 1)), (0, .ref (g 0))]) hx hb dX4_roomsToLet_27 hl (k := 1) rfl (m_inc _) (by decide) rfl (fun ls hl => ?_)
        refine lv_goto (tgt := 4) hx hb dX4_roomsToLet_30 (by decide) ?_
        exact ih4 (i + 1) (by omega) _ (by simp only [rtA, c12, c21, ← ex1, if_true, if_false, true_and, and_true, false_and, and_false, not_true_eq_false, not_false_eq_true, reduceCtorEq, eq_self_iff_true, and_self, Bool.false_eq_true, Bool.not_eq_true]) ls (lv_sub hl [0, 1, 2] rfl)
  exact lp4 (kR σ) 0 (by omega) _ (rfl) ls (lv_sub hl [0, 1, 2] rfl)
