section
variable {E : gE} {g : Nat → Nat} {M : gM} {σ : Sg}
theorem CX.bid (h : CX E g M σ) (hv : VS σ) {u : Nat} (hu : u < kU σ) (k z : Int32) : CX E g (mu M (400 + u) (.inr (2, [.int (sGu σ u 1), .int (sGu σ u 0), .int (sGu σ u 2), .int k, .int z, .int (sGu σ u 5), .int (sGu σ u 6)]))) (uU (uU σ u 3 k) u 4 z) := by
  have h9 := h.putU ⟨hv.1.1, hv.1.2.1, hv.1.2.2.1⟩ hu (v := up2 (up2 (sGu σ) u 3 k) u 4 z) (fun i hi q _ => by simp [up2, hi])
  have e : guestE (uU (uU σ u 3 k) u 4 z) u = .inr (2, [.int (sGu σ u 1), .int (sGu σ u 0), .int (sGu σ u 2), .int k, .int z, .int (sGu σ u 5), .int (sGu σ u 6)]) := by
    simp [guestE, uU, up2, sGu]
  rw [← e]
  exact h9
/-- what a winner gets back; the steps of a room's letting -/
def ltB (σ : Sg) (k u : Nat) : Int32 := if upB (sGu σ u 2) (hON σ (nI k) (-1) 12) = true then due σ k (nI u) / 2 else 0
def ltS1 (σ : Sg) (k u : Nat) : Sg := (up2 (up2 (up2 (sRm σ) k 1 (rcN (sRm σ k 1) (frB (sGu σ u 2) (hON σ (nI k) (-1) 12)))) k 3 (sRm σ k 3 + 1)) k 4 (sRm σ k 4 + (due σ k (nI u) - ltB σ k u)), σ.2)
def ltS2 (σ : Sg) (k u : Nat) : Sg := ((ltS1 σ k u).1, σ.2.1, up2 (up2 (up2 (up2 (sGu σ) u 0 (sGu σ u 0 - (due σ k (nI u) - ltB σ k u))) u 5 (sGu σ u 5 + 1)) u 6 (baN (sGu σ u 6) (sGu σ u 2) (hON σ (nI k) (-1) 12))) u 2 (nvN (sGu σ u 2) (hON σ (nI k) (-1) 12)), σ.2.2.2)
def ltS3 (σ : Sg) (k u : Nat) : Sg := uN (ltS2 σ k u) (sN σ) (sH σ + (due σ k (nI u) - ltB σ k u)) (sB σ)
def ltS4 (σ : Sg) (k u : Nat) : Sg := uN (ltS2 σ k u) (sN σ) (sH σ + (due σ k (nI u) - ltB σ k u)) (sB σ + ltB σ k u)
def ltF (σ : Sg) (k : Nat) : Sg := if wnr σ k = -1 then σ else ltS4 σ k (wnr σ k).toNatClampNeg
theorem CX.let1 (h : CX E g M σ) (hv : VS σ) {k : Nat} (hk : k < kR σ) (u : Nat) : CX E g (mu M (100 + k) (.inr (3, [.int (sRm σ k 0), .int (sRm σ k 2), .int (rcN (sRm σ k 1) (frB (sGu σ u 2) (hON σ (nI k) (-1) 12))), .int (sRm σ k 3 + 1), .int (sRm σ k 4 + (due σ k (nI u) - ltB σ k u)), .int (sJn σ k)]))) (ltS1 σ k u) := by
  have h9 := h.putR ⟨hv.1.1, hv.1.2.1, hv.1.2.2.1⟩ hk (v := (ltS1 σ k u).1) (fun i hi q _ => by simp [ltS1, up2, hi])
  have e : roomE (ltS1 σ k u) k = .inr (3, [.int (sRm σ k 0), .int (sRm σ k 2), .int (rcN (sRm σ k 1) (frB (sGu σ u 2) (hON σ (nI k) (-1) 12))), .int (sRm σ k 3 + 1), .int (sRm σ k 4 + (due σ k (nI u) - ltB σ k u)), .int (sJn σ k)]) := by
    have e0 : sJn (ltS1 σ k u) = sJn σ := rfl
    have e1 : sRm (ltS1 σ k u) = up2 (up2 (up2 (sRm σ) k 1 (rcN (sRm σ k 1) (frB (sGu σ u 2) (hON σ (nI k) (-1) 12)))) k 3 (sRm σ k 3 + 1)) k 4 (sRm σ k 4 + (due σ k (nI u) - ltB σ k u)) := rfl
    unfold roomE
    rw [e0, e1]
    simp [up2]
  rw [← e]
  exact h9
theorem CX.let2 {k u : Nat} (h : CX E g M (ltS1 σ k u)) (hv : VS σ) (hu : u < kU σ) : CX E g (mu M (400 + u) (.inr (2, [.int (sGu σ u 1), .int (sGu σ u 0 - (due σ k (nI u) - ltB σ k u)), .int (nvN (sGu σ u 2) (hON σ (nI k) (-1) 12)), .int (sGu σ u 3), .int (sGu σ u 4), .int (sGu σ u 5 + 1), .int (baN (sGu σ u 6) (sGu σ u 2) (hON σ (nI k) (-1) 12))]))) (ltS2 σ k u) := by
  have h9 := h.putU ⟨hv.1.1, hv.1.2.1, hv.1.2.2.1⟩ hu (v := (ltS2 σ k u).2.2.1) (fun i hi q _ => by simp [ltS2, up2, hi]; rfl)
  have e : guestE (ltS2 σ k u) u = .inr (2, [.int (sGu σ u 1), .int (sGu σ u 0 - (due σ k (nI u) - ltB σ k u)), .int (nvN (sGu σ u 2) (hON σ (nI k) (-1) 12)), .int (sGu σ u 3), .int (sGu σ u 4), .int (sGu σ u 5 + 1), .int (baN (sGu σ u 6) (sGu σ u 2) (hON σ (nI k) (-1) 12))]) := by
    have e1 : sGu (ltS2 σ k u) = up2 (up2 (up2 (up2 (sGu σ) u 0 (sGu σ u 0 - (due σ k (nI u) - ltB σ k u))) u 5 (sGu σ u 5 + 1)) u 6 (baN (sGu σ u 6) (sGu σ u 2) (hON σ (nI k) (-1) 12))) u 2 (nvN (sGu σ u 2) (hON σ (nI k) (-1) 12)) := rfl
    unfold guestE
    rw [e1]
    simp [up2]
  rw [← e]
  exact h9
end
theorem in_X4_bid_X4 : ∀ w ∈ u_ws RX4 TX4 8, w ∈ wsX4_bid := by decide +kernel
set_option maxHeartbeats 4000000 in
set_option maxRecDepth 100000 in
theorem c_bidOk (l : Launch) (E : gE) (A : Nat → Prop) (g : Nat → Nat) (M : gM) (σ : Sg) (hv : VS σ) (hw : CW E g M σ) (hp : PW E M σ) (hd : CD M σ) (u k : Nat) (hu : u < kU σ) (hk : k < kR σ) (z : Int32) (hz9 : 1 ≤ z ∧ z ≤ 200) (hv2 : VS (biS σ u k z)) : Met l yX4_bid wsX4_bid ({ frames := 3, cells := 0, slots := 0, locals := 64 } : Room) (Pm E [.ref (g 0), .int (nI u), .int (nI k), .int z] (mP E A g M)) (QW (some (.int (bI (sui (biS σ u k z) u k)))) (fun H => ∃ M', mP E A g M' H ∧ CX E g M' (biS σ u k z)) A) 0 0 A := by
  refine m_entry (by decide) rfl (Nat.le_of_ble_eq_true rfl) ?_
  intro p e s m args below meth c hx hb hr hml hts hown hlocks hin hM hK ls hl
  have hl : lv_has ls 5 [(0, .ref (g 0)), (1, .int (nI u)), (2, .int (nI k)), (3, .int z)] := hl
  have hown : s.vm.findClass RX4 = some m.cls := hown
  have hS : va_S A s.heap s.heap [] := va_S.rf
  skip
  obtain ⟨⟨hR9, hG9, hU9, hD9⟩, -⟩ := id hv
  obtain ⟨mc1, el1, h1, -⟩ := CW.LR hw
  obtain ⟨mc2, el2, h2, -⟩ := CW.LG hw
  obtain ⟨mc3, el3, h3, -⟩ := CW.LU hw
  refine lv_aload_n hx hb dX4_bid_0 rfl (lv_at hl 0 rfl) ?_
  refine lv_iload_n hx hb dX4_bid_1 rfl (lv_at hl 1 rfl) ?_
  refine m_cV 1 [.int (nI u)] [] hx hb hml hown hts hK (c_isGuestY l E A g M σ hv hw u (by omega)) gX4_bid_X4_isGuest rfl rfl rfl (by decide +kernel) rfl ⟨Nat.le_of_ble_eq_true rfl, Nat.le_of_ble_eq_true rfl⟩ hM (CW.x hw) rfl rfl hM hl.1 (Nat.le_of_ble_eq_true rfl) ⟨Nat.le_of_ble_eq_true rfl, Nat.le_of_ble_eq_true rfl⟩ rfl dX4_bid_2 ?_
  refine lv_if_ne (tgt := 18) hx hb dX4_bid_5 (by decide) (fun c9 => ?_) (fun c9 => absurd c9 (by decide))
  refine lv_aload_n hx hb dX4_bid_18 rfl (lv_at hl 0 rfl) ?_
  refine lv_iload_n hx hb dX4_bid_19 rfl (lv_at hl 2 rfl) ?_
  refine m_cV 1 [.int (nI k)] [] hx hb hml hown hts hK (c_isRoomY l E A g M σ hv hw k (by omega)) gX4_bid_X4_isRoom rfl rfl rfl (by decide +kernel) rfl ⟨Nat.le_of_ble_eq_true rfl, Nat.le_of_ble_eq_true rfl⟩ hM (CW.x hw) rfl rfl hM hl.1 (Nat.le_of_ble_eq_true rfl) ⟨Nat.le_of_ble_eq_true rfl, Nat.le_of_ble_eq_true rfl⟩ rfl dX4_bid_20 ?_
  refine lv_if_ne (tgt := 36) hx hb dX4_bid_23 (by decide) (fun c9 => ?_) (fun c9 => absurd c9 (by decide))
  refine lv_iload_n hx hb dX4_bid_36 rfl (lv_at hl 3 rfl) ?_
  refine lv_iconst (v := 1) hx hb dX4_bid_37 (by decide) ?_
  refine lv_sipush (v := 200) hx hb dX4_bid_38 (by decide) ?_
  refine m_cS 3 [.int z, .int 1, .int 200] [] hx hb hml hown hts hK (c_withinY l E A g M z 1 200 (hz9)) gX4_bid_X4_within rfl rfl rfl (by decide +kernel) rfl ⟨Nat.le_of_ble_eq_true rfl, Nat.le_of_ble_eq_true rfl⟩ trivial hl.1 (Nat.le_of_ble_eq_true rfl) ⟨Nat.le_of_ble_eq_true rfl, Nat.le_of_ble_eq_true rfl⟩ rfl dX4_bid_41 ?_
  refine lv_if_ne (tgt := 57) hx hb dX4_bid_44 (by decide) (fun c9 => ?_) (fun c9 => absurd c9 (by decide))
  refine lv_aload_n hx hb dX4_bid_57 rfl (lv_at hl 0 rfl) ?_
  refine m_get hx hb hts in_X4_bid_X4 hown hK hM (CW.x hw) rfl 2 (by decide) (by decide +kernel) rfl dX4_bid_58 ?_
  refine lv_iload_n hx hb dX4_bid_61 rfl (lv_at hl 1 rfl) ?_
  refine m_cV 1 [.int (nI u)] [] hx hb hml hown hts hK (c_get l E A g M (CW.LU hw) (by omega) u (by omega)) gX4_bid_Jx4a65c_get_915e3 rfl rfl rfl (by decide +kernel) rfl ⟨Nat.le_of_ble_eq_true rfl, Nat.le_of_ble_eq_true rfl⟩ hM h3 rfl rfl hM hl.1 (Nat.le_of_ble_eq_true rfl) ⟨Nat.le_of_ble_eq_true rfl, Nat.le_of_ble_eq_true rfl⟩ rfl dX4_bid_62 ?_
  refine m_cast (ci := 2) hx hb hts hown (by decide +kernel) hK hM (CW.guest hw (i := u) (by omega)) rfl dX4_bid_65 ?_
  refine lv_astore (lv' := [(4, .ref (g (400 + u))), (0, .ref (g 0)), (1, .int (nI u)), (2, .int (nI k)), (3, .int z)]) hx hb dX4_bid_68 hl (by decide) rfl (fun ls hl => ?_)
  refine lv_aload hx hb dX4_bid_70 (lv_at hl 0 rfl) ?_
  refine lv_iload_n hx hb dX4_bid_72 rfl (lv_at hl 3 rfl) ?_
  refine lv_iload_n hx hb dX4_bid_73 rfl (lv_at hl 4 rfl) ?_
  refine m_wV 2 [.int (nI k), .int z] [] hx hb hml hown hts hK (c_writeBid l E A g M (400 + u) (sGu σ u 1) (sGu σ u 0) (sGu σ u 2) (sGu σ u 3) (sGu σ u 4) (sGu σ u 5) (sGu σ u 6) (CW.guest hw (by omega)) (nI k) z) gX4_bid_X1_writeBid rfl rfl rfl (by decide +kernel) rfl ⟨Nat.le_of_ble_eq_true rfl, Nat.le_of_ble_eq_true rfl⟩ hM (CW.guest hw (i := u) (by omega)) rfl rfl hM hl.1 (Nat.le_of_ble_eq_true rfl) ⟨Nat.le_of_ble_eq_true rfl, Nat.le_of_ble_eq_true rfl⟩ rfl dX4_bid_74 hS (fun _ _ h => h) (fun _ h => h) (fun H locs hQ hz hk hS => ?_)
  refine W.eq (g2 := F0 m 77 ls []) rfl ?_
  obtain ⟨M, hM, hw, hp, hd⟩ : ∃ M', mP E A g M' H ∧ CX E g M' (biS σ u k z) := ⟨_, hQ, CX.bid ⟨hw, hp, hd⟩ hv (by omega) _ _⟩
  have kR9 : kR (biS σ u k z) = kR σ := rfl
  have kG9 : kG (biS σ u k z) = kG σ := rfl
  have kU9 : kU (biS σ u k z) = kU σ := rfl
  obtain ⟨mc1, el1, h1, -⟩ : LW E g M 1 7 100 (kR σ) := kR9 ▸ CW.LR hw
  obtain ⟨mc2, el2, h2, -⟩ : LW E g M 2 8 200 (kG σ) := kG9 ▸ CW.LG hw
  obtain ⟨mc3, el3, h3, -⟩ : LW E g M 3 9 400 (kU σ) := kU9 ▸ CW.LU hw
  refine lv_aload hx hb dX4_bid_77 (lv_at hl 0 rfl) ?_
  refine lv_aload_n hx hb dX4_bid_79 rfl (lv_at hl 1 rfl) ?_
  refine m_get hx hb hts in_X4_bid_X4 hown hK hM (CW.x hw) rfl 0 (by decide) (by decide +kernel) rfl dX4_bid_80 ?_
  refine lv_iload_n hx hb dX4_bid_83 rfl (lv_at hl 3 rfl) ?_
  refine m_cV 1 [.int (nI k)] [.ref (g (400 + u))] hx hb hml hown hts hK (c_get l E A g M (CW.LR hw) (by omega) k (by omega)) gX4_bid_Jx4a65c_get_915e3 rfl rfl rfl (by decide +kernel) rfl ⟨Nat.le_of_ble_eq_true rfl, Nat.le_of_ble_eq_true rfl⟩ hM h1 rfl rfl hM hl.1 (Nat.le_of_ble_eq_true rfl) ⟨Nat.le_of_ble_eq_true rfl, Nat.le_of_ble_eq_true rfl⟩ rfl dX4_bid_84 ?_
  refine m_cast (ci := 3) hx hb hts hown (by decide +kernel) hK hM (CW.room hw (i := k) (by omega)) rfl dX4_bid_87 ?_
  refine m_cV 1 [.ref (g (100 + k))] [] hx hb hml hown hts hK (c_couldBidFor l E A g M (400 + u) (sGu (biS σ u k z) u 1) (sGu (biS σ u k z) u 0) (sGu (biS σ u k z) u 2) (sGu (biS σ u k z) u 3) (sGu (biS σ u k z) u 4) (sGu (biS σ u k z) u 5) (sGu (biS σ u k z) u 6) (CW.guest hw (by omega)) (100 + k) (sRm (biS σ u k z) k 0) (sRm (biS σ u k z) k 2) (sRm (biS σ u k z) k 1) (sRm (biS σ u k z) k 3) (sRm (biS σ u k z) k 4) (sJn (biS σ u k z) k) (CW.room hw (by omega))) gX4_bid_X1_couldBidFor rfl rfl rfl (by decide +kernel) rfl ⟨Nat.le_of_ble_eq_true rfl, Nat.le_of_ble_eq_true rfl⟩ hM (CW.guest hw (i := u) (by omega)) rfl rfl hM hl.1 (Nat.le_of_ble_eq_true rfl) ⟨Nat.le_of_ble_eq_true rfl, Nat.le_of_ble_eq_true rfl⟩ rfl dX4_bid_90 ?_
  exact w_z hx hb hr hlocks dX4_bid_93 hS (Nat.le_of_ble_eq_true rfl) (Nat.le_of_ble_eq_true rfl) (by first | rfl | assumption) (⟨_, hM, hw, hp, hd⟩)
theorem in_X4_leave_X1 : ∀ w ∈ u_ws RX1 TX1 7, w ∈ wsX4_leave := by decide +kernel
theorem in_X4_leave_X4 : ∀ w ∈ u_ws RX4 TX4 8, w ∈ wsX4_leave := by decide +kernel
set_option maxHeartbeats 4000000 in
set_option maxRecDepth 100000 in
theorem c_leaveOk (l : Launch) (E : gE) (A : Nat → Prop) (g : Nat → Nat) (M : gM) (σ : Sg) (hv : VS σ) (hw : CW E g M σ) (hp : PW E M σ) (hd : CD M σ) (u : Nat) (hu : u < kU σ) : Met l yX4_leave wsX4_leave ({ frames := 3, cells := 0, slots := 0, locals := 64 } : Room) (Pm E [.ref (g 0), .int (nI u)] (mP E A g M)) (QW (some (.int (sGu σ u 3))) (fun H => ∃ M', mP E A g M' H ∧ CX E g M' (uU (uU σ u 3 (-1)) u 4 0)) A) 0 0 A := by
  refine m_entry (by decide) rfl (Nat.le_of_ble_eq_true rfl) ?_
  intro p e s m args below meth c hx hb hr hml hts hown hlocks hin hM hK ls hl
  have hl : lv_has ls 4 [(0, .ref (g 0)), (1, .int (nI u))] := hl
  have hown : s.vm.findClass RX4 = some m.cls := hown
  have hS : va_S A s.heap s.heap [] := va_S.rf
  skip
  obtain ⟨⟨hR9, hG9, hU9, hD9⟩, -⟩ := id hv
  obtain ⟨mc1, el1, h1, -⟩ := CW.LR hw
  obtain ⟨mc2, el2, h2, -⟩ := CW.LG hw
  obtain ⟨mc3, el3, h3, -⟩ := CW.LU hw
  refine lv_aload_n hx hb dX4_leave_0 rfl (lv_at hl 0 rfl) ?_
  refine lv_iload_n hx hb dX4_leave_1 rfl (lv_at hl 1 rfl) ?_
  refine m_cV 1 [.int (nI u)] [] hx hb hml hown hts hK (c_isGuestY l E A g M σ hv hw u (by omega)) gX4_leave_X4_isGuest rfl rfl rfl (by decide +kernel) rfl ⟨Nat.le_of_ble_eq_true rfl, Nat.le_of_ble_eq_true rfl⟩ hM (CW.x hw) rfl rfl hM hl.1 (Nat.le_of_ble_eq_true rfl) ⟨Nat.le_of_ble_eq_true rfl, Nat.le_of_ble_eq_true rfl⟩ rfl dX4_leave_2 ?_
  refine lv_if_ne (tgt := 18) hx hb dX4_leave_5 (by decide) (fun c9 => ?_) (fun c9 => absurd c9 (by decide))
  refine lv_aload_n hx hb dX4_leave_18 rfl (lv_at hl 0 rfl) ?_
  refine m_get hx hb hts in_X4_leave_X4 hown hK hM (CW.x hw) rfl 2 (by decide) (by decide +kernel) rfl dX4_leave_19 ?_
  refine lv_iload_n hx hb dX4_leave_22 rfl (lv_at hl 1 rfl) ?_
  refine m_cV 1 [.int (nI u)] [] hx hb hml hown hts hK (c_get l E A g M (CW.LU hw) (by omega) u (by omega)) gX4_leave_Jx4a65c_get_915e3 rfl rfl rfl (by decide +kernel) rfl ⟨Nat.le_of_ble_eq_true rfl, Nat.le_of_ble_eq_true rfl⟩ hM h3 rfl rfl hM hl.1 (Nat.le_of_ble_eq_true rfl) ⟨Nat.le_of_ble_eq_true rfl, Nat.le_of_ble_eq_true rfl⟩ rfl dX4_leave_23 ?_
  refine m_cast (ci := 2) hx hb hts hown (by decide +kernel) hK hM (CW.guest hw (i := u) (by omega)) rfl dX4_leave_26 ?_
  refine lv_astore_n (lv' := [(2, .ref (g (400 + u))), (0, .ref (g 0)), (1, .int (nI u))]) hx hb dX4_leave_29 rfl hl (by decide) rfl (fun ls hl => ?_)
  refine lv_aload_n hx hb dX4_leave_30 rfl (lv_at hl 0 rfl) ?_
  refine m_get hx hb hts in_X4_leave_X1 hown hK hM (CW.guest hw (i := u) (by omega)) rfl 3 (by decide) (by decide +kernel) rfl dX4_leave_31 ?_
  refine lv_istore_n (lv' := [(3, .int (sGu σ u 3)), (2, .ref (g (400 + u))), (0, .ref (g 0)), (1, .int (nI u))]) hx hb dX4_leave_34 rfl hl (by decide) rfl (fun ls hl => ?_)
  refine lv_aload_n hx hb dX4_leave_35 rfl (lv_at hl 1 rfl) ?_
  refine m_wV 0 [] [] hx hb hml hown hts hK (c_dropBid l E A g M (400 + u) (sGu σ u 1) (sGu σ u 0) (sGu σ u 2) (sGu σ u 3) (sGu σ u 4) (sGu σ u 5) (sGu σ u 6) (CW.guest hw (by omega))) gX4_leave_X1_dropBid rfl rfl rfl (by decide +kernel) rfl ⟨Nat.le_of_ble_eq_true rfl, Nat.le_of_ble_eq_true rfl⟩ hM (CW.guest hw (i := u) (by omega)) rfl rfl hM hl.1 (Nat.le_of_ble_eq_true rfl) ⟨Nat.le_of_ble_eq_true rfl, Nat.le_of_ble_eq_true rfl⟩ rfl dX4_leave_36 hS (fun _ _ h => h) (fun _ h => h) (fun H locs hQ hz hk hS => ?_)
  refine W.eq (g2 := F0 m 39 ls []) rfl ?_
  obtain ⟨M, hM, hw, hp, hd⟩ : ∃ M', mP E A g M' H ∧ CX E g M' (uU (uU σ u 3 (-1)) u 4 0) := ⟨_, hQ, CX.bid ⟨hw, hp, hd⟩ hv (by omega) _ _⟩
  have kR9 : kR (uU (uU σ u 3 (-1)) u 4 0) = kR σ := rfl
  have kG9 : kG (uU (uU σ u 3 (-1)) u 4 0) = kG σ := rfl
  have kU9 : kU (uU (uU σ u 3 (-1)) u 4 0) = kU σ := rfl
  obtain ⟨mc1, el1, h1, -⟩ : LW E g M 1 7 100 (kR σ) := kR9 ▸ CW.LR hw
  obtain ⟨mc2, el2, h2, -⟩ : LW E g M 2 8 200 (kG σ) := kG9 ▸ CW.LG hw
  obtain ⟨mc3, el3, h3, -⟩ : LW E g M 3 9 400 (kU σ) := kU9 ▸ CW.LU hw
  refine lv_iload_n hx hb dX4_leave_39 rfl (lv_at hl 0 rfl) ?_
  exact w_i hx hb hr hlocks dX4_leave_40 hS (Nat.le_of_ble_eq_true rfl) (Nat.le_of_ble_eq_true rfl) (by first | rfl | assumption) (⟨_, hM, hw, hp, hd⟩)
theorem in_X4_letRoom_X4 : ∀ w ∈ u_ws RX4 TX4 8, w ∈ wsX4_letRoom := by decide +kernel
set_option maxHeartbeats 4000000 in
set_option maxRecDepth 100000 in
theorem c_letRoom (l : Launch) (E : gE) (A : Nat → Prop) (g : Nat → Nat) (M : gM) (σ : Sg) (hv : VS σ) (hw : CW E g M σ) (hp : PW E M σ) (hd : CD M σ) (k : Nat) (hk9 : k < kR σ) : Met l yX4_letRoom wsX4_letRoom ({ frames := 5, cells := 0, slots := 0, locals := 114 } : Room) (Pm E [.ref (g 0), .int (nI k)] (mP E A g M)) (QW none (fun H => ∃ M', mP E A g M' H ∧ CX E g M' (ltF σ k)) A) 0 0 A := by
  refine m_entry (by decide) rfl (Nat.le_of_ble_eq_true rfl) ?_
  intro p e s m args below meth c hx hb hr hml hts hown hlocks hin hM hK ls hl
  have hl : lv_has ls 8 [(0, .ref (g 0)), (1, .int (nI k))] := hl
  have hown : s.vm.findClass RX4 = some m.cls := hown
  have hS : va_S A s.heap s.heap [] := va_S.rf
  skip
  obtain ⟨⟨hR9, hG9, hU9, hD9⟩, -⟩ := id hv
  obtain ⟨mc1, el1, h1, -⟩ := CW.LR hw
  obtain ⟨mc2, el2, h2, -⟩ := CW.LG hw
  obtain ⟨mc3, el3, h3, -⟩ := CW.LU hw
  refine lv_aload_n hx hb dX4_letRoom_0 rfl (lv_at hl 0 rfl) ?_
  refine lv_iload_n hx hb dX4_letRoom_1 rfl (lv_at hl 1 rfl) ?_
  refine m_cV 1 [.int (nI k)] [] hx hb hml hown hts hK (c_winnerOf l E A g M σ hv hw hp k (by omega)) gX4_letRoom_X4_winnerOf rfl rfl rfl (by decide +kernel) rfl ⟨Nat.le_of_ble_eq_true rfl, Nat.le_of_ble_eq_true rfl⟩ hM (CW.x hw) rfl rfl hM hl.1 (Nat.le_of_ble_eq_true rfl) ⟨Nat.le_of_ble_eq_true rfl, Nat.le_of_ble_eq_true rfl⟩ rfl dX4_letRoom_2 ?_
  refine lv_istore_n (lv' := [(2, .int (wnr σ k)), (0, .ref (g 0)), (1, .int (nI k))]) hx hb dX4_letRoom_5 rfl hl (by decide) rfl (fun ls hl => ?_)
  refine lv_aload_n hx hb dX4_letRoom_6 rfl (lv_at hl 1 rfl) ?_
  refine lv_iload_n hx hb dX4_letRoom_7 rfl (lv_at hl 2 rfl) ?_
  refine m_cV 1 [.int (nI k)] [] hx hb hml hown hts hK (c_isRoomY l E A g M σ hv hw k (by omega)) gX4_letRoom_X4_isRoom rfl rfl rfl (by decide +kernel) rfl ⟨Nat.le_of_ble_eq_true rfl, Nat.le_of_ble_eq_true rfl⟩ hM (CW.x hw) rfl rfl hM hl.1 (Nat.le_of_ble_eq_true rfl) ⟨Nat.le_of_ble_eq_true rfl, Nat.le_of_ble_eq_true rfl⟩ rfl dX4_letRoom_8 ?_
  refine lv_if_eq (tgt := 22) hx hb dX4_letRoom_11 (by decide) (fun c9 => absurd c9 (by decide)) (fun c9 => ?_)
  refine lv_aload_n hx hb dX4_letRoom_14 rfl (lv_at hl 1 rfl) ?_
  refine lv_iload_n hx hb dX4_letRoom_15 rfl (lv_at hl 0 rfl) ?_
  refine m_cV 1 [.int (wnr σ k)] [] hx hb hml hown hts hK (c_isGuest l E A g M σ hv hw (wnr σ k)) gX4_letRoom_X4_isGuest rfl rfl rfl (by decide +kernel) rfl ⟨Nat.le_of_ble_eq_true rfl, Nat.le_of_ble_eq_true rfl⟩ hM (CW.x hw) rfl rfl hM hl.1 (Nat.le_of_ble_eq_true rfl) ⟨Nat.le_of_ble_eq_true rfl, Nat.le_of_ble_eq_true rfl⟩ rfl dX4_letRoom_16 ?_
  refine lv_if_ne (tgt := 23) hx hb dX4_letRoom_19 (by decide) (fun c19 => ?_) (fun c19 => ?_)
  · have c19 := of_decide_eq_true (bI_t c19)
    obtain ⟨u9, hu9, hw9, -⟩ := wnr_ge σ k hU9 c19
    rw [hw9] at hl
    refine lv_aload_n hx hb dX4_letRoom_23 rfl (lv_at hl 1 rfl) ?_
    refine m_get hx hb hts in_X4_letRoom_X4 hown hK hM (CW.x hw) rfl 0 (by decide) (by decide +kernel) rfl dX4_letRoom_24 ?_
    refine lv_iload_n hx hb dX4_letRoom_27 rfl (lv_at hl 2 rfl) ?_
    refine m_cV 1 [.int (nI k)] [] hx hb hml hown hts hK (c_get l E A g M (CW.LR hw) (by omega) k (by omega)) gX4_letRoom_Jx4a65c_get_915e3 rfl rfl rfl (by decide +kernel) rfl ⟨Nat.le_of_ble_eq_true rfl, Nat.le_of_ble_eq_true rfl⟩ hM h1 rfl rfl hM hl.1 (Nat.le_of_ble_eq_true rfl) ⟨Nat.le_of_ble_eq_true rfl, Nat.le_of_ble_eq_true rfl⟩ rfl dX4_letRoom_28 ?_
    refine m_cast (ci := 3) hx hb hts hown (by decide +kernel) hK hM (CW.room hw (i := k) (by omega)) rfl dX4_letRoom_31 ?_
    refine lv_astore_n (lv' := [(3, .ref (g (100 + k))), (2, .int (nI u9)), (0, .ref (g 0)), (1, .int (nI k))]) hx hb dX4_letRoom_34 rfl hl (by decide) rfl (fun ls hl => ?_)
    refine lv_aload_n hx hb dX4_letRoom_35 rfl (lv_at hl 2 rfl) ?_
    refine m_get hx hb hts in_X4_letRoom_X4 hown hK hM (CW.x hw) rfl 2 (by decide) (by decide +kernel) rfl dX4_letRoom_36 ?_
    refine lv_iload_n hx hb dX4_letRoom_39 rfl (lv_at hl 1 rfl) ?_
    refine m_cV 1 [.int (nI u9)] [] hx hb hml hown hts hK (c_get l E A g M (CW.LU hw) (by omega) u9 (by omega)) gX4_letRoom_Jx4a65c_get_915e3 rfl rfl rfl (by decide +kernel) rfl ⟨Nat.le_of_ble_eq_true rfl, Nat.le_of_ble_eq_true rfl⟩ hM h3 rfl rfl hM hl.1 (Nat.le_of_ble_eq_true rfl) ⟨Nat.le_of_ble_eq_true rfl, Nat.le_of_ble_eq_true rfl⟩ rfl dX4_letRoom_40 ?_
    refine m_cast (ci := 2) hx hb hts hown (by decide +kernel) hK hM (CW.guest hw (i := u9) (by omega)) rfl dX4_letRoom_43 ?_
    refine lv_astore (lv' := [(4, .ref (g (400 + u9))), (3, .ref (g (100 + k))), (2, .int (nI u9)), (0, .ref (g 0)), (1, .int (nI k))]) hx hb dX4_letRoom_46 hl (by decide) rfl (fun ls hl => ?_)
    refine lv_aload_n hx hb dX4_letRoom_48 rfl (lv_at hl 3 rfl) ?_
    refine lv_iload_n hx hb dX4_letRoom_49 rfl (lv_at hl 4 rfl) ?_
    refine lv_iconst (v := (-1)) hx hb dX4_letRoom_50 (by decide) ?_
    refine m_cV 2 [.int (nI k), .int (-1)] [] hx hb hml hown hts hK (c_hON l E A g M σ hv hw hp (nI k) (-1)) gX4_letRoom_X4_hauntingOfNight rfl rfl rfl (by decide +kernel) rfl ⟨Nat.le_of_ble_eq_true rfl, Nat.le_of_ble_eq_true rfl⟩ hM (CW.x hw) rfl rfl hM hl.1 (Nat.le_of_ble_eq_true rfl) ⟨Nat.le_of_ble_eq_true rfl, Nat.le_of_ble_eq_true rfl⟩ rfl dX4_letRoom_51 ?_
    refine lv_istore (lv' := [(5, .int (hON σ (nI k) (-1) 12)), (4, .ref (g (400 + u9))), (3, .ref (g (100 + k))), (2, .int (nI u9)), (0, .ref (g 0)), (1, .int (nI k))]) hx hb dX4_letRoom_54 hl (by decide) rfl (fun ls hl => ?_)
    refine lv_aload_n hx hb dX4_letRoom_56 rfl (lv_at hl 4 rfl) ?_
    refine lv_iload_n hx hb dX4_letRoom_57 rfl (lv_at hl 5 rfl) ?_
    refine lv_iload_n hx hb dX4_letRoom_58 rfl (lv_at hl 3 rfl) ?_
    refine m_cV 2 [.int (nI k), .int (nI u9)] [] hx hb hml hown hts hK (c_dueFor l E A g M σ hv hw hp k (by omega) (nI u9)) gX4_letRoom_X4_dueFor rfl rfl rfl (by decide +kernel) rfl ⟨Nat.le_of_ble_eq_true rfl, Nat.le_of_ble_eq_true rfl⟩ hM (CW.x hw) rfl rfl hM hl.1 (Nat.le_of_ble_eq_true rfl) ⟨Nat.le_of_ble_eq_true rfl, Nat.le_of_ble_eq_true rfl⟩ rfl dX4_letRoom_59 ?_
    refine lv_istore (lv' := [(6, .int (due σ k (nI u9))), (5, .int (hON σ (nI k) (-1) 12)), (4, .ref (g (400 + u9))), (3, .ref (g (100 + k))), (2, .int (nI u9)), (0, .ref (g 0)), (1, .int (nI k))]) hx hb dX4_letRoom_62 hl (by decide) rfl (fun ls hl => ?_)
    refine lv_aload hx hb dX4_letRoom_64 (lv_at hl 2 rfl) ?_
    refine lv_iload hx hb dX4_letRoom_66 (lv_at hl 1 rfl) ?_
    refine m_cV 1 [.int (hON σ (nI k) (-1) 12)] [] hx hb hml hown hts hK (c_upset l E A g M (400 + u9) (sGu σ u9 1) (sGu σ u9 0) (sGu σ u9 2) (sGu σ u9 3) (sGu σ u9 4) (sGu σ u9 5) (sGu σ u9 6) (CW.guest hw (by omega)) (hON σ (nI k) (-1) 12)) gX4_letRoom_X1_isUpsetBy rfl rfl rfl (by decide +kernel) rfl ⟨Nat.le_of_ble_eq_true rfl, Nat.le_of_ble_eq_true rfl⟩ hM (CW.guest hw (i := u9) (by omega)) rfl rfl hM hl.1 (Nat.le_of_ble_eq_true rfl) ⟨Nat.le_of_ble_eq_true rfl, Nat.le_of_ble_eq_true rfl⟩ rfl dX4_letRoom_68 ?_
    refine lv_if_eq (tgt := 81) hx hb dX4_letRoom_71 (by decide) (fun c71 => ?_) (fun c71 => ?_)
    · have c71 := bI_f c71
      refine lv_iconst (v := 0) hx hb dX4_letRoom_81 (by decide) ?_
      refine W.eq (g2 := F0 m 82 ls [.int (ltB σ k u9)]) (by rw [show ltB σ k u9 = 0 from by rw [ltB, if_neg (by rw [c71]; decide)]]) ?_
      refine lv_istore (lv' := [(7, .int (ltB σ k u9)), (6, .int (due σ k (nI u9))), (5, .int (hON σ (nI k) (-1) 12)), (4, .ref (g (400 + u9))), (3, .ref (g (100 + k))), (2, .int (nI u9)), (0, .ref (g 0)), (1, .int (nI k))]) hx hb dX4_letRoom_82 hl (by decide) rfl (fun ls hl => ?_)
      refine lv_aload_n hx hb dX4_letRoom_84 rfl (lv_at hl 4 rfl) ?_
      refine lv_iload hx hb dX4_letRoom_85 (lv_at hl 1 rfl) ?_
      refine lv_iload hx hb dX4_letRoom_87 (lv_at hl 0 rfl) ?_
      refine lv_isub hx hb dX4_letRoom_89 ?_
      refine lv_aload hx hb dX4_letRoom_90 (lv_at hl 3 rfl) ?_
      refine lv_iload hx hb dX4_letRoom_92 (lv_at hl 2 rfl) ?_
      refine m_cV 1 [.int (hON σ (nI k) (-1) 12)] [.int ((due σ k (nI u9)) - (ltB σ k u9)), .ref (g (100 + k))] hx hb hml hown hts hK (c_fright l E A g M (400 + u9) (sGu σ u9 1) (sGu σ u9 0) (sGu σ u9 2) (sGu σ u9 3) (sGu σ u9 4) (sGu σ u9 5) (sGu σ u9 6) (CW.guest hw (by omega)) (hON σ (nI k) (-1) 12)) gX4_letRoom_X1_isFrightenedBy rfl rfl rfl (by decide +kernel) rfl ⟨Nat.le_of_ble_eq_true rfl, Nat.le_of_ble_eq_true rfl⟩ hM (CW.guest hw (i := u9) (by omega)) rfl rfl hM hl.1 (Nat.le_of_ble_eq_true rfl) ⟨Nat.le_of_ble_eq_true rfl, Nat.le_of_ble_eq_true rfl⟩ rfl dX4_letRoom_94 ?_
      refine m_wV 2 [.int ((due σ k (nI u9)) - (ltB σ k u9)), .int (bI (frB (sGu σ u9 2) (hON σ (nI k) (-1) 12)))] [] hx hb hml hown hts hK (c_wasLet l E A g M (100 + k) (sRm σ k 0) (sRm σ k 2) (sRm σ k 1) (sRm σ k 3) (sRm σ k 4) (sJn σ k) (CW.room hw (by omega)) ((due σ k (nI u9)) - (ltB σ k u9)) (frB (sGu σ u9 2) (hON σ (nI k) (-1) 12))) gX4_letRoom_X2_wasLet rfl rfl rfl (by decide +kernel) rfl ⟨Nat.le_of_ble_eq_true rfl, Nat.le_of_ble_eq_true rfl⟩ hM (CW.room hw (i := k) (by omega)) rfl rfl hM hl.1 (Nat.le_of_ble_eq_true rfl) ⟨Nat.le_of_ble_eq_true rfl, Nat.le_of_ble_eq_true rfl⟩ rfl dX4_letRoom_97 hS (fun _ _ h => h) (fun _ h => h) (fun H locs hQ hz hk hS => ?_)
      refine W.eq (g2 := F0 m 100 ls []) rfl ?_
      obtain ⟨M, hM, hw, hp, hd⟩ : ∃ M', mP E A g M' H ∧ CX E g M' (ltS1 σ k u9) := ⟨_, hQ, CX.let1 ⟨hw, hp, hd⟩ hv hk9 u9⟩
      have kR9 : kR (ltS1 σ k u9) = kR σ := rfl
      have kG9 : kG (ltS1 σ k u9) = kG σ := rfl
      have kU9 : kU (ltS1 σ k u9) = kU σ := rfl
      obtain ⟨mc1, el1, h1, -⟩ : LW E g M 1 7 100 (kR σ) := kR9 ▸ CW.LR hw
      obtain ⟨mc2, el2, h2, -⟩ : LW E g M 2 8 200 (kG σ) := kG9 ▸ CW.LG hw
      obtain ⟨mc3, el3, h3, -⟩ : LW E g M 3 9 400 (kU σ) := kU9 ▸ CW.LU hw
      refine lv_aload hx hb dX4_letRoom_100 (lv_at hl 3 rfl) ?_
      refine lv_iload hx hb dX4_letRoom_102 (lv_at hl 1 rfl) ?_
      refine lv_iload hx hb dX4_letRoom_104 (lv_at hl 0 rfl) ?_
      refine lv_isub hx hb dX4_letRoom_106 ?_
      refine lv_iload hx hb dX4_letRoom_107 (lv_at hl 2 rfl) ?_
      refine m_wV 2 [.int ((due σ k (nI u9)) - (ltB σ k u9)), .int (hON σ (nI k) (-1) 12)] [] hx hb hml hown hts hK (c_stayed l E A g M (400 + u9) (sGu σ u9 1) (sGu σ u9 0) (sGu σ u9 2) (sGu σ u9 3) (sGu σ u9 4) (sGu σ u9 5) (sGu σ u9 6) (CW.guest hw (by omega)) ((due σ k (nI u9)) - (ltB σ k u9)) (hON σ (nI k) (-1) 12)) gX4_letRoom_X1_stayed rfl rfl rfl (by decide +kernel) rfl ⟨Nat.le_of_ble_eq_true rfl, Nat.le_of_ble_eq_true rfl⟩ hM (CW.guest hw (i := u9) (by omega)) rfl rfl hM hl.1 (Nat.le_of_ble_eq_true rfl) ⟨Nat.le_of_ble_eq_true rfl, Nat.le_of_ble_eq_true rfl⟩ rfl dX4_letRoom_109 hS (fun _ _ h => h) (fun _ h => h) (fun H locs hQ hz hk hS => ?_)
      refine W.eq (g2 := F0 m 112 ls []) rfl ?_
      obtain ⟨M, hM, hw, hp, hd⟩ : ∃ M', mP E A g M' H ∧ CX E g M' (ltS2 σ k u9) := ⟨_, hQ, CX.let2 ⟨hw, hp, hd⟩ hv (by omega)⟩
      have kR9 : kR (ltS2 σ k u9) = kR σ := rfl
      have kG9 : kG (ltS2 σ k u9) = kG σ := rfl
      have kU9 : kU (ltS2 σ k u9) = kU σ := rfl
      obtain ⟨mc1, el1, h1, -⟩ : LW E g M 1 7 100 (kR σ) := kR9 ▸ CW.LR hw
      obtain ⟨mc2, el2, h2, -⟩ : LW E g M 2 8 200 (kG σ) := kG9 ▸ CW.LG hw
      obtain ⟨mc3, el3, h3, -⟩ : LW E g M 3 9 400 (kU σ) := kU9 ▸ CW.LU hw
      refine lv_aload_n hx hb dX4_letRoom_112 rfl (lv_at hl 6 rfl) ?_
      refine lv_dup hx hb dX4_letRoom_113 rfl ?_
      refine m_get hx hb hts in_X4_letRoom_X4 hown hK hM (CW.x hw) rfl 6 (by decide) (by decide +kernel) rfl dX4_letRoom_114 ?_
      refine lv_iload hx hb dX4_letRoom_117 (lv_at hl 1 rfl) ?_
      refine lv_iload hx hb dX4_letRoom_119 (lv_at hl 0 rfl) ?_
      refine lv_isub hx hb dX4_letRoom_121 ?_
      refine lv_iadd hx hb dX4_letRoom_122 ?_
      refine m_put hx hb hts in_X4_letRoom_X4 tyX4 tyX4_ok nmX4 hown hK hM hS (CW.x hw) rfl 6 (by decide) (by decide +kernel) rfl (tyX4_ok 6 (by decide)) rfl rfl (Nat.le_of_ble_eq_true rfl) dX4_letRoom_123 (fun H locs hM hz hS => ?_)
      obtain ⟨M, hM, hw, hp, hd⟩ : ∃ M', mP E A g M' H ∧ CX E g M' (ltS3 σ k u9) := ⟨_, hM, CX.putX (σ := ltS2 σ k u9) ⟨hw, hp, hd⟩ ⟨hR9, hG9, hU9⟩⟩
      have kR9 : kR (ltS3 σ k u9) = kR σ := rfl
      have kG9 : kG (ltS3 σ k u9) = kG σ := rfl
      have kU9 : kU (ltS3 σ k u9) = kU σ := rfl
      obtain ⟨mc1, el1, h1, -⟩ : LW E g M 1 7 100 (kR σ) := kR9 ▸ CW.LR hw
      obtain ⟨mc2, el2, h2, -⟩ : LW E g M 2 8 200 (kG σ) := kG9 ▸ CW.LG hw
      obtain ⟨mc3, el3, h3, -⟩ : LW E g M 3 9 400 (kU σ) := kU9 ▸ CW.LU hw
      refine lv_aload_n hx hb dX4_letRoom_126 rfl (lv_at hl 6 rfl) ?_
      refine lv_dup hx hb dX4_letRoom_127 rfl ?_
      refine m_get hx hb hts in_X4_letRoom_X4 hown hK hM (CW.x hw) rfl 7 (by decide) (by decide +kernel) rfl dX4_letRoom_128 ?_
      refine lv_iload hx hb dX4_letRoom_131 (lv_at hl 0 rfl) ?_
      refine lv_iadd hx hb dX4_letRoom_133 ?_
      refine m_put hx hb hts in_X4_letRoom_X4 tyX4 tyX4_ok nmX4 hown hK hM hS (CW.x hw) rfl 7 (by decide) (by decide +kernel) rfl (tyX4_ok 7 (by decide)) rfl rfl (Nat.le_of_ble_eq_true rfl) dX4_letRoom_134 (fun H locs hM hz hS => ?_)
      obtain ⟨M, hM, hw, hp, hd⟩ : ∃ M', mP E A g M' H ∧ CX E g M' (ltS4 σ k u9) := ⟨_, hM, CX.putX (σ := ltS3 σ k u9) ⟨hw, hp, hd⟩ ⟨hR9, hG9, hU9⟩⟩
      have kR9 : kR (ltS4 σ k u9) = kR σ := rfl
      have kG9 : kG (ltS4 σ k u9) = kG σ := rfl
      have kU9 : kU (ltS4 σ k u9) = kU σ := rfl
      obtain ⟨mc1, el1, h1, -⟩ : LW E g M 1 7 100 (kR σ) := kR9 ▸ CW.LR hw
      obtain ⟨mc2, el2, h2, -⟩ : LW E g M 2 8 200 (kG σ) := kG9 ▸ CW.LG hw
      obtain ⟨mc3, el3, h3, -⟩ : LW E g M 3 9 400 (kU σ) := kU9 ▸ CW.LU hw
      exact w_v hx hb hr hlocks dX4_letRoom_137 hS (Nat.le_of_ble_eq_true rfl) (Nat.le_of_ble_eq_true rfl) (⟨_, hM, by rw [ltF, hw9, if_neg (nI_ne1 (by omega)), nI_clamp (by omega)]; exact ⟨hw, hp, hd⟩⟩)
    · have c71 := bI_t c71
      refine lv_iload hx hb dX4_letRoom_74 (lv_at hl 0 rfl) ?_
      refine lv_iconst (v := 2) hx hb dX4_letRoom_76 (by decide) ?_
      refine lv_idiv hx hb dX4_letRoom_77 (by decide) ?_
      rw [show ((due σ k (nI u9)) / 2 : Int32) = ltB σ k u9 from by rw [ltB, if_pos c71]]
      refine lv_goto (tgt := 82) hx hb dX4_letRoom_78 (by decide) ?_
      refine lv_istore (lv' := [(7, .int (ltB σ k u9)), (6, .int (due σ k (nI u9))), (5, .int (hON σ (nI k) (-1) 12)), (4, .ref (g (400 + u9))), (3, .ref (g (100 + k))), (2, .int (nI u9)), (0, .ref (g 0)), (1, .int (nI k))]) hx hb dX4_letRoom_82 hl (by decide) rfl (fun ls hl => ?_)
      refine lv_aload_n hx hb dX4_letRoom_84 rfl (lv_at hl 4 rfl) ?_
      refine lv_iload hx hb dX4_letRoom_85 (lv_at hl 1 rfl) ?_
      refine lv_iload hx hb dX4_letRoom_87 (lv_at hl 0 rfl) ?_
      refine lv_isub hx hb dX4_letRoom_89 ?_
      refine lv_aload hx hb dX4_letRoom_90 (lv_at hl 3 rfl) ?_
      refine lv_iload hx hb dX4_letRoom_92 (lv_at hl 2 rfl) ?_
      refine m_cV 1 [.int (hON σ (nI k) (-1) 12)] [.int ((due σ k (nI u9)) - (ltB σ k u9)), .ref (g (100 + k))] hx hb hml hown hts hK (c_fright l E A g M (400 + u9) (sGu σ u9 1) (sGu σ u9 0) (sGu σ u9 2) (sGu σ u9 3) (sGu σ u9 4) (sGu σ u9 5) (sGu σ u9 6) (CW.guest hw (by omega)) (hON σ (nI k) (-1) 12)) gX4_letRoom_X1_isFrightenedBy rfl rfl rfl (by decide +kernel) rfl ⟨Nat.le_of_ble_eq_true rfl, Nat.le_of_ble_eq_true rfl⟩ hM (CW.guest hw (i := u9) (by omega)) rfl rfl hM hl.1 (Nat.le_of_ble_eq_true rfl) ⟨Nat.le_of_ble_eq_true rfl, Nat.le_of_ble_eq_true rfl⟩ rfl dX4_letRoom_94 ?_
      refine m_wV 2 [.int ((due σ k (nI u9)) - (ltB σ k u9)), .int (bI (frB (sGu σ u9 2) (hON σ (nI k) (-1) 12)))] [] hx hb hml hown hts hK (c_wasLet l E A g M (100 + k) (sRm σ k 0) (sRm σ k 2) (sRm σ k 1) (sRm σ k 3) (sRm σ k 4) (sJn σ k) (CW.room hw (by omega)) ((due σ k (nI u9)) - (ltB σ k u9)) (frB (sGu σ u9 2) (hON σ (nI k) (-1) 12))) gX4_letRoom_X2_wasLet rfl rfl rfl (by decide +kernel) rfl ⟨Nat.le_of_ble_eq_true rfl, Nat.le_of_ble_eq_true rfl⟩ hM (CW.room hw (i := k) (by omega)) rfl rfl hM hl.1 (Nat.le_of_ble_eq_true rfl) ⟨Nat.le_of_ble_eq_true rfl, Nat.le_of_ble_eq_true rfl⟩ rfl dX4_letRoom_97 hS (fun _ _ h => h) (fun _ h => h) (fun H locs hQ hz hk hS => ?_)
      refine W.eq (g2 := F0 m 100 ls []) rfl ?_
      obtain ⟨M, hM, hw, hp, hd⟩ : ∃ M', mP E A g M' H ∧ CX E g M' (ltS1 σ k u9) := ⟨_, hQ, CX.let1 ⟨hw, hp, hd⟩ hv hk9 u9⟩
      have kR9 : kR (ltS1 σ k u9) = kR σ := rfl
      have kG9 : kG (ltS1 σ k u9) = kG σ := rfl
      have kU9 : kU (ltS1 σ k u9) = kU σ := rfl
      obtain ⟨mc1, el1, h1, -⟩ : LW E g M 1 7 100 (kR σ) := kR9 ▸ CW.LR hw
      obtain ⟨mc2, el2, h2, -⟩ : LW E g M 2 8 200 (kG σ) := kG9 ▸ CW.LG hw
      obtain ⟨mc3, el3, h3, -⟩ : LW E g M 3 9 400 (kU σ) := kU9 ▸ CW.LU hw
      refine lv_aload hx hb dX4_letRoom_100 (lv_at hl 3 rfl) ?_
      refine lv_iload hx hb dX4_letRoom_102 (lv_at hl 1 rfl) ?_
      refine lv_iload hx hb dX4_letRoom_104 (lv_at hl 0 rfl) ?_
      refine lv_isub hx hb dX4_letRoom_106 ?_
      refine lv_iload hx hb dX4_letRoom_107 (lv_at hl 2 rfl) ?_
      refine m_wV 2 [.int ((due σ k (nI u9)) - (ltB σ k u9)), .int (hON σ (nI k) (-1) 12)] [] hx hb hml hown hts hK (c_stayed l E A g M (400 + u9) (sGu σ u9 1) (sGu σ u9 0) (sGu σ u9 2) (sGu σ u9 3) (sGu σ u9 4) (sGu σ u9 5) (sGu σ u9 6) (CW.guest hw (by omega)) ((due σ k (nI u9)) - (ltB σ k u9)) (hON σ (nI k) (-1) 12)) gX4_letRoom_X1_stayed rfl rfl rfl (by decide +kernel) rfl ⟨Nat.le_of_ble_eq_true rfl, Nat.le_of_ble_eq_true rfl⟩ hM (CW.guest hw (i := u9) (by omega)) rfl rfl hM hl.1 (Nat.le_of_ble_eq_true rfl) ⟨Nat.le_of_ble_eq_true rfl, Nat.le_of_ble_eq_true rfl⟩ rfl dX4_letRoom_109 hS (fun _ _ h => h) (fun _ h => h) (fun H locs hQ hz hk hS => ?_)
      refine W.eq (g2 := F0 m 112 ls []) rfl ?_
      obtain ⟨M, hM, hw, hp, hd⟩ : ∃ M', mP E A g M' H ∧ CX E g M' (ltS2 σ k u9) := ⟨_, hQ, CX.let2 ⟨hw, hp, hd⟩ hv (by omega)⟩
      have kR9 : kR (ltS2 σ k u9) = kR σ := rfl
      have kG9 : kG (ltS2 σ k u9) = kG σ := rfl
      have kU9 : kU (ltS2 σ k u9) = kU σ := rfl
      obtain ⟨mc1, el1, h1, -⟩ : LW E g M 1 7 100 (kR σ) := kR9 ▸ CW.LR hw
      obtain ⟨mc2, el2, h2, -⟩ : LW E g M 2 8 200 (kG σ) := kG9 ▸ CW.LG hw
      obtain ⟨mc3, el3, h3, -⟩ : LW E g M 3 9 400 (kU σ) := kU9 ▸ CW.LU hw
      refine lv_aload_n hx hb dX4_letRoom_112 rfl (lv_at hl 6 rfl) ?_
      refine lv_dup hx hb dX4_letRoom_113 rfl ?_
      refine m_get hx hb hts in_X4_letRoom_X4 hown hK hM (CW.x hw) rfl 6 (by decide) (by decide +kernel) rfl dX4_letRoom_114 ?_
      refine lv_iload hx hb dX4_letRoom_117 (lv_at hl 1 rfl) ?_
      refine lv_iload hx hb dX4_letRoom_119 (lv_at hl 0 rfl) ?_
      refine lv_isub hx hb dX4_letRoom_121 ?_
      refine lv_iadd hx hb dX4_letRoom_122 ?_
      refine m_put hx hb hts in_X4_letRoom_X4 tyX4 tyX4_ok nmX4 hown hK hM hS (CW.x hw) rfl 6 (by decide) (by decide +kernel) rfl (tyX4_ok 6 (by decide)) rfl rfl (Nat.le_of_ble_eq_true rfl) dX4_letRoom_123 (fun H locs hM hz hS => ?_)
      obtain ⟨M, hM, hw, hp, hd⟩ : ∃ M', mP E A g M' H ∧ CX E g M' (ltS3 σ k u9) := ⟨_, hM, CX.putX (σ := ltS2 σ k u9) ⟨hw, hp, hd⟩ ⟨hR9, hG9, hU9⟩⟩
      have kR9 : kR (ltS3 σ k u9) = kR σ := rfl
      have kG9 : kG (ltS3 σ k u9) = kG σ := rfl
      have kU9 : kU (ltS3 σ k u9) = kU σ := rfl
      obtain ⟨mc1, el1, h1, -⟩ : LW E g M 1 7 100 (kR σ) := kR9 ▸ CW.LR hw
      obtain ⟨mc2, el2, h2, -⟩ : LW E g M 2 8 200 (kG σ) := kG9 ▸ CW.LG hw
      obtain ⟨mc3, el3, h3, -⟩ : LW E g M 3 9 400 (kU σ) := kU9 ▸ CW.LU hw
      refine lv_aload_n hx hb dX4_letRoom_126 rfl (lv_at hl 6 rfl) ?_
      refine lv_dup hx hb dX4_letRoom_127 rfl ?_
      refine m_get hx hb hts in_X4_letRoom_X4 hown hK hM (CW.x hw) rfl 7 (by decide) (by decide +kernel) rfl dX4_letRoom_128 ?_
      refine lv_iload hx hb dX4_letRoom_131 (lv_at hl 0 rfl) ?_
      refine lv_iadd hx hb dX4_letRoom_133 ?_
      refine m_put hx hb hts in_X4_letRoom_X4 tyX4 tyX4_ok nmX4 hown hK hM hS (CW.x hw) rfl 7 (by decide) (by decide +kernel) rfl (tyX4_ok 7 (by decide)) rfl rfl (Nat.le_of_ble_eq_true rfl) dX4_letRoom_134 (fun H locs hM hz hS => ?_)
      obtain ⟨M, hM, hw, hp, hd⟩ : ∃ M', mP E A g M' H ∧ CX E g M' (ltS4 σ k u9) := ⟨_, hM, CX.putX (σ := ltS3 σ k u9) ⟨hw, hp, hd⟩ ⟨hR9, hG9, hU9⟩⟩
      have kR9 : kR (ltS4 σ k u9) = kR σ := rfl
      have kG9 : kG (ltS4 σ k u9) = kG σ := rfl
      have kU9 : kU (ltS4 σ k u9) = kU σ := rfl
      obtain ⟨mc1, el1, h1, -⟩ : LW E g M 1 7 100 (kR σ) := kR9 ▸ CW.LR hw
      obtain ⟨mc2, el2, h2, -⟩ : LW E g M 2 8 200 (kG σ) := kG9 ▸ CW.LG hw
      obtain ⟨mc3, el3, h3, -⟩ : LW E g M 3 9 400 (kU σ) := kU9 ▸ CW.LU hw
      exact w_v hx hb hr hlocks dX4_letRoom_137 hS (Nat.le_of_ble_eq_true rfl) (Nat.le_of_ble_eq_true rfl) (⟨_, hM, by rw [ltF, hw9, if_neg (nI_ne1 (by omega)), nI_clamp (by omega)]; exact ⟨hw, hp, hd⟩⟩)
  · have c19 := of_decide_eq_false (bI_f c19)
    have hno9 := wnr_lt σ k hU9 c19
    exact w_v hx hb hr hlocks dX4_letRoom_22 hS (Nat.le_of_ble_eq_true rfl) (Nat.le_of_ble_eq_true rfl) (⟨_, hM, by rw [ltF, if_pos hno9]; exact ⟨hw, hp, hd⟩⟩)
/-- the class's night: rooms let one by one, then the bids dropped -/
def cS (σ : Sg) : Nat → Sg
  | 0 => σ
  | i + 1 => ltF (cS σ i) i
def dS (σ : Sg) : Nat → Sg
  | 0 => σ
  | i + 1 => uU (uU (dS σ i) i 3 (-1)) i 4 0
theorem ltF_k (σ : Sg) (k : Nat) : (ltF σ k).2.2.2.2.1 = σ.2.2.2.2.1 ∧ sGh (ltF σ k) = sGh σ ∧ sJn (ltF σ k) = sJn σ ∧ sN (ltF σ k) = sN σ := by
  unfold ltF
  split <;> exact ⟨rfl, rfl, rfl, rfl⟩
theorem cS_k (σ : Sg) : ∀ i, (cS σ i).2.2.2.2.1 = σ.2.2.2.2.1
  | 0 => rfl
  | i + 1 => (ltF_k _ _).1.trans (cS_k σ i)
theorem dS_k (σ : Sg) : ∀ i, (dS σ i).2.2.2.2.1 = σ.2.2.2.2.1
  | 0 => rfl
  | i + 1 => dS_k σ i
theorem rcN_ok {x : Int32} (b : Bool) (h : 0 ≤ x ∧ x ≤ 9) : 0 ≤ rcN x b ∧ rcN x b ≤ 9 := by
  have e : Int32.ofInt x.toInt = x := Int32.ofInt_toInt x
  have h1 : 0 ≤ x.toInt := Int32.le_iff_toInt_le.mp h.1
  have h2 : x.toInt ≤ 9 := Int32.le_iff_toInt_le.mp h.2
  generalize x.toInt = z at e h1 h2
  subst e
  rcases (show z = 0 ∨ z = 1 ∨ z = 2 ∨ z = 3 ∨ z = 4 ∨ z = 5 ∨ z = 6 ∨ z = 7 ∨ z = 8 ∨ z = 9 by omega) with rfl | rfl | rfl | rfl | rfl | rfl | rfl | rfl | rfl | rfl <;> cases b <;> decide
theorem lt_rm (σ : Sg) (k u i : Nat) : sRm (ltS4 σ k u) i 1 = if i = k then rcN (sRm σ k 1) (frB (sGu σ u 2) (hON σ (nI k) (-1) 12)) else sRm σ i 1 := by
  rw [show sRm (ltS4 σ k u) = up2 (up2 (up2 (sRm σ) k 1 (rcN (sRm σ k 1) (frB (sGu σ u 2) (hON σ (nI k) (-1) 12)))) k 3 (sRm σ k 3 + 1)) k 4 (sRm σ k 4 + (due σ k (nI u) - ltB σ k u)) from rfl]
  by_cases q : i = k <;> simp [up2, q]
theorem lt_gu (σ : Sg) (k u : Nat) : sGu (ltS4 σ k u) = up2 (up2 (up2 (up2 (sGu σ) u 0 (sGu σ u 0 - (due σ k (nI u) - ltB σ k u))) u 5 (sGu σ u 5 + 1)) u 6 (baN (sGu σ u 6) (sGu σ u 2) (hON σ (nI k) (-1) 12))) u 2 (nvN (sGu σ u 2) (hON σ (nI k) (-1) 12)) := rfl
theorem lt_gu3 (σ : Sg) (k u i : Nat) : sGu (ltS4 σ k u) i 3 = sGu σ i 3 := by rw [lt_gu]; simp [up2]
theorem lt_gu4 (σ : Sg) (k u i : Nat) : sGu (ltS4 σ k u) i 4 = sGu σ i 4 := by rw [lt_gu]; simp [up2]
theorem VS.lt_ok {σ : Sg} (hv : VS σ) (k : Nat) : VS (ltF σ k) := by
  unfold ltF
  split
  · exact hv
  · obtain ⟨a, b, c, d, e⟩ := hv
    refine ⟨a, fun i hi => ?_, c, fun i hi => ?_, e⟩
    · have h0 := b i hi
      rw [lt_rm]
      by_cases q : i = k
      · subst q; rw [if_pos rfl]; exact rcN_ok _ h0
      · rw [if_neg q]; exact h0
    · rw [lt_gu3, lt_gu4]
      exact d i hi
theorem VS.cS_ok {σ : Sg} (hv : VS σ) : ∀ i, VS (cS σ i)
  | 0 => hv
  | i + 1 => (VS.cS_ok hv i).lt_ok i
theorem VS.drop {σ : Sg} (hv : VS σ) (u : Nat) : VS (uU (uU σ u 3 (-1)) u 4 0) := by
  obtain ⟨a, b, c, d, e⟩ := hv
  refine ⟨a, b, c, fun i hi => ?_, e⟩
  show up2 (up2 (sGu σ) u 3 (-1)) u 4 0 i 3 = -1 ∧ up2 (up2 (sGu σ) u 3 (-1)) u 4 0 i 4 = 0 ∨ ∃ r, r < kR σ ∧ up2 (up2 (sGu σ) u 3 (-1)) u 4 0 i 3 = nI r ∧ 1 ≤ up2 (up2 (sGu σ) u 3 (-1)) u 4 0 i 4 ∧ up2 (up2 (sGu σ) u 3 (-1)) u 4 0 i 4 ≤ 200
  by_cases q : i = u
  · subst q
    rw [up2_n (by omega), up2_s, up2_s]
    exact Or.inl ⟨rfl, rfl⟩
  · rw [up2_n (by omega), up2_n (by omega), up2_n (by omega), up2_n (by omega)]
    exact d i hi
theorem VS.dS_ok {σ : Sg} (hv : VS σ) : ∀ i, VS (dS σ i)
  | 0 => hv
  | i + 1 => (VS.dS_ok hv i).drop i
/-- the state behind a night -/
def ngS (σ : Sg) : Sg := uN (dS (cS σ (kR σ)) (kU σ)) (sN (dS (cS σ (kR σ)) (kU σ)) + 1) (sH (dS (cS σ (kR σ)) (kU σ))) (sB (dS (cS σ (kR σ)) (kU σ)))
theorem in_X4_night_X4 : ∀ w ∈ u_ws RX4 TX4 8, w ∈ wsX4_night := by decide +kernel
set_option maxHeartbeats 4000000 in
set_option maxRecDepth 100000 in
theorem c_nightOk (l : Launch) (E : gE) (A : Nat → Prop) (g : Nat → Nat) (M : gM) (σ : Sg) (hv : VS σ) (hw : CW E g M σ) (hp : PW E M σ) (hd : CD M σ)  : Met l yX4_night wsX4_night ({ frames := 6, cells := 0, slots := 0, locals := 141 } : Room) (Pm E [.ref (g 0)] (mP E A g M)) (QW (some (.int (sH (ngS σ)))) (fun H => ∃ M', mP E A g M' H ∧ CX E g M' (ngS σ)) A) 0 0 A := by
  refine m_entry (by decide) rfl (Nat.le_of_ble_eq_true rfl) ?_
  intro p e s m args below meth c hx hb hr hml hts hown hlocks hin hM hK ls hl
  have hl : lv_has ls 2 [(0, .ref (g 0))] := hl
  have hown : s.vm.findClass RX4 = some m.cls := hown
  have hS : va_S A s.heap s.heap [] := va_S.rf
  skip
  obtain ⟨⟨hR9, hG9, hU9, hD9⟩, -⟩ := id hv
  obtain ⟨mc1, el1, h1, -⟩ := CW.LR hw
  obtain ⟨mc2, el2, h2, -⟩ := CW.LG hw
  obtain ⟨mc3, el3, h3, -⟩ := CW.LU hw
  refine lv_iconst (v := 0) hx hb dX4_night_0 (by decide) ?_
  refine lv_istore_n (lv' := [(1, .int 0), (0, .ref (g 0))]) hx hb dX4_night_1 rfl hl (by decide) rfl (fun ls hl => ?_)
  have lp2 : ∀ (n2 i : Nat), n2 + i = kR σ → ∀ (H : Heap) (locs : List Loc) (M : gM), (mP E A g M H ∧ CX E g M (cS σ i)) → va_S A s.heap H locs → ∀ ls : Array Slot, lv_has ls 2 [(1, .int (nI i)), (0, .ref (g 0))] → W p l e ({ frames := 6, cells := 0, slots := 0, locals := 141 } : Room) s m args below meth c H locs 0 0 (MQ below (QW (some (.int (sH (ngS σ)))) (fun H => ∃ M', mP E A g M' H ∧ CX E g M' (ngS σ)) A) args s 0 0 A) (F0 m 2 ls []) := by
    intro n2
    induction n2 with
    | zero =>
      intro i hi2 H locs M hI hS ls hl
      obtain ⟨hM, hw, hp, hd⟩ := hI
      have k9 := cS_k σ i
      have kR9 : kR (cS σ i) = kR σ := congrArg (fun q => q.1) k9
      have kG9 : kG (cS σ i) = kG σ := congrArg (fun q => q.2.1) k9
      have kU9 : kU (cS σ i) = kU σ := congrArg (fun q => q.2.2.1) k9
      have hL1 : LW E g M 1 7 100 (kR σ) := kR9 ▸ CW.LR hw
      obtain ⟨mc1, el1, h1, -⟩ := id hL1
      have hL2 : LW E g M 2 8 200 (kG σ) := kG9 ▸ CW.LG hw
      obtain ⟨mc2, el2, h2, -⟩ := id hL2
      have hL3 : LW E g M 3 9 400 (kU σ) := kU9 ▸ CW.LU hw
      obtain ⟨mc3, el3, h3, -⟩ := id hL3
      have hvc := VS.cS_ok hv i
      obtain rfl : kR σ = i := by omega
      refine lv_iload_n hx hb dX4_night_2 rfl (lv_at hl 0 rfl) ?_
      refine lv_aload_n hx hb dX4_night_3 rfl (lv_at hl 1 rfl) ?_
      refine m_get hx hb hts in_X4_night_X4 hown hK hM (CW.x hw) rfl 0 (by decide) (by decide +kernel) rfl dX4_night_4 ?_
      refine m_cV 0 [] [.int (nI (kR σ))] hx hb hml hown hts hK (c_size l E A g M hL1) gX4_night_Jx4a65c_size_8abf5 rfl rfl rfl (by decide +kernel) rfl ⟨Nat.le_of_ble_eq_true rfl, Nat.le_of_ble_eq_true rfl⟩ hM h1 rfl rfl hM hl.1 (Nat.le_of_ble_eq_true rfl) ⟨Nat.le_of_ble_eq_true rfl, Nat.le_of_ble_eq_true rfl⟩ rfl dX4_night_7 ?_
      refine lv_icmp_ge (tgt := 24) hx hb dX4_night_10 (by decide) (fun c10 => ?_) (fun c9 => absurd (Int32.le_refl _) c9)
      refine lv_iconst (v := 0) hx hb dX4_night_24 (by decide) ?_
      refine lv_istore_n (lv' := [(1, .int 0), (0, .ref (g 0))]) hx hb dX4_night_25 rfl hl (by decide) rfl (fun ls hl => ?_)
      have lp26 : ∀ (n26 i : Nat), n26 + i = kU σ → ∀ (H : Heap) (locs : List Loc) (M : gM), (mP E A g M H ∧ CX E g M (dS (cS σ (kR σ)) i)) → va_S A s.heap H locs → ∀ ls : Array Slot, lv_has ls 2 [(1, .int (nI i)), (0, .ref (g 0))] → W p l e ({ frames := 6, cells := 0, slots := 0, locals := 141 } : Room) s m args below meth c H locs 0 0 (MQ below (QW (some (.int (sH (ngS σ)))) (fun H => ∃ M', mP E A g M' H ∧ CX E g M' (ngS σ)) A) args s 0 0 A) (F0 m 26 ls []) := by
        intro n26
        induction n26 with
        | zero =>
          intro i hi26 H locs M hI hS ls hl
          obtain ⟨hM, hw, hp, hd⟩ := hI
          have k9 := (dS_k (cS σ (kR σ)) i).trans (cS_k σ (kR σ))
          have kR9 : kR (dS (cS σ (kR σ)) i) = kR σ := congrArg (fun q => q.1) k9
          have kG9 : kG (dS (cS σ (kR σ)) i) = kG σ := congrArg (fun q => q.2.1) k9
          have kU9 : kU (dS (cS σ (kR σ)) i) = kU σ := congrArg (fun q => q.2.2.1) k9
          have hL1 : LW E g M 1 7 100 (kR σ) := kR9 ▸ CW.LR hw
          obtain ⟨mc1, el1, h1, -⟩ := id hL1
          have hL2 : LW E g M 2 8 200 (kG σ) := kG9 ▸ CW.LG hw
          obtain ⟨mc2, el2, h2, -⟩ := id hL2
          have hL3 : LW E g M 3 9 400 (kU σ) := kU9 ▸ CW.LU hw
          obtain ⟨mc3, el3, h3, -⟩ := id hL3
          have hvd := VS.dS_ok (VS.cS_ok hv (kR σ)) i
          obtain rfl : kU σ = i := by omega
          refine lv_iload_n hx hb dX4_night_26 rfl (lv_at hl 0 rfl) ?_
          refine lv_aload_n hx hb dX4_night_27 rfl (lv_at hl 1 rfl) ?_
          refine m_get hx hb hts in_X4_night_X4 hown hK hM (CW.x hw) rfl 2 (by decide) (by decide +kernel) rfl dX4_night_28 ?_
          refine m_cV 0 [] [.int (nI (kU σ))] hx hb hml hown hts hK (c_size l E A g M hL3) gX4_night_Jx4a65c_size_8abf5 rfl rfl rfl (by decide +kernel) rfl ⟨Nat.le_of_ble_eq_true rfl, Nat.le_of_ble_eq_true rfl⟩ hM h3 rfl rfl hM hl.1 (Nat.le_of_ble_eq_true rfl) ⟨Nat.le_of_ble_eq_true rfl, Nat.le_of_ble_eq_true rfl⟩ rfl dX4_night_31 ?_
          refine lv_icmp_ge (tgt := 57) hx hb dX4_night_34 (by decide) (fun c34 => ?_) (fun c9 => absurd (Int32.le_refl _) c9)
          refine lv_aload_n hx hb dX4_night_57 rfl (lv_at hl 1 rfl) ?_
          refine lv_dup hx hb dX4_night_58 rfl ?_
          refine m_get hx hb hts in_X4_night_X4 hown hK hM (CW.x hw) rfl 5 (by decide) (by decide +kernel) rfl dX4_night_59 ?_
          refine lv_iconst (v := 1) hx hb dX4_night_62 (by decide) ?_
          refine lv_iadd hx hb dX4_night_63 ?_
          refine m_put hx hb hts in_X4_night_X4 tyX4 tyX4_ok nmX4 hown hK hM hS (CW.x hw) rfl 5 (by decide) (by decide +kernel) rfl (tyX4_ok 5 (by decide)) rfl rfl (Nat.le_of_ble_eq_true rfl) dX4_night_64 (fun H locs hM hz hS => ?_)
          obtain ⟨M, hM, hw, hp, hd⟩ : ∃ M', mP E A g M' H ∧ CX E g M' (ngS σ) := ⟨_, hM, CX.putX ⟨hw, hp, hd⟩ ⟨by omega, by omega, by omega⟩⟩
          refine lv_aload_n hx hb dX4_night_67 rfl (lv_at hl 1 rfl) ?_
          refine m_get hx hb hts in_X4_night_X4 hown hK hM (CW.x hw) rfl 6 (by decide) (by decide +kernel) rfl dX4_night_68 ?_
          exact w_i hx hb hr hlocks dX4_night_71 hS (Nat.le_of_ble_eq_true rfl) (Nat.le_of_ble_eq_true rfl) (by first | rfl | assumption) (⟨_, hM, hw, hp, hd⟩)
        | succ n26 ih26 =>
          intro i hi26 H locs M hI hS ls hl
          obtain ⟨hM, hw, hp, hd⟩ := hI
          have k9 := (dS_k (cS σ (kR σ)) i).trans (cS_k σ (kR σ))
          have kR9 : kR (dS (cS σ (kR σ)) i) = kR σ := congrArg (fun q => q.1) k9
          have kG9 : kG (dS (cS σ (kR σ)) i) = kG σ := congrArg (fun q => q.2.1) k9
          have kU9 : kU (dS (cS σ (kR σ)) i) = kU σ := congrArg (fun q => q.2.2.1) k9
          have hL1 : LW E g M 1 7 100 (kR σ) := kR9 ▸ CW.LR hw
          obtain ⟨mc1, el1, h1, -⟩ := id hL1
          have hL2 : LW E g M 2 8 200 (kG σ) := kG9 ▸ CW.LG hw
          obtain ⟨mc2, el2, h2, -⟩ := id hL2
          have hL3 : LW E g M 3 9 400 (kU σ) := kU9 ▸ CW.LU hw
          obtain ⟨mc3, el3, h3, -⟩ := id hL3
          have hvd := VS.dS_ok (VS.cS_ok hv (kR σ)) i
          have hlt26 : i < kU σ := by omega
          refine lv_iload_n hx hb dX4_night_26 rfl (lv_at hl 0 rfl) ?_
          refine lv_aload_n hx hb dX4_night_27 rfl (lv_at hl 1 rfl) ?_
          refine m_get hx hb hts in_X4_night_X4 hown hK hM (CW.x hw) rfl 2 (by decide) (by decide +kernel) rfl dX4_night_28 ?_
          refine m_cV 0 [] [.int (nI i)] hx hb hml hown hts hK (c_size l E A g M hL3) gX4_night_Jx4a65c_size_8abf5 rfl rfl rfl (by decide +kernel) rfl ⟨Nat.le_of_ble_eq_true rfl, Nat.le_of_ble_eq_true rfl⟩ hM h3 rfl rfl hM hl.1 (Nat.le_of_ble_eq_true rfl) ⟨Nat.le_of_ble_eq_true rfl, Nat.le_of_ble_eq_true rfl⟩ rfl dX4_night_31 ?_
          refine lv_icmp_ge (tgt := 57) hx hb dX4_night_34 (by decide) (fun c9 => absurd c9 (nI_ge hlt26 (by omega))) (fun c34 => ?_)
          refine lv_aload_n hx hb dX4_night_37 rfl (lv_at hl 1 rfl) ?_
          refine m_get hx hb hts in_X4_night_X4 hown hK hM (CW.x hw) rfl 2 (by decide) (by decide +kernel) rfl dX4_night_38 ?_
          refine lv_iload_n hx hb dX4_night_41 rfl (lv_at hl 0 rfl) ?_
          refine m_cV 1 [.int (nI i)] [] hx hb hml hown hts hK (c_get l E A g M hL3 (by omega) i (by omega)) gX4_night_Jx4a65c_get_915e3 rfl rfl rfl (by decide +kernel) rfl ⟨Nat.le_of_ble_eq_true rfl, Nat.le_of_ble_eq_true rfl⟩ hM h3 rfl rfl hM hl.1 (Nat.le_of_ble_eq_true rfl) ⟨Nat.le_of_ble_eq_true rfl, Nat.le_of_ble_eq_true rfl⟩ rfl dX4_night_42 ?_
          refine m_cast (ci := 2) hx hb hts hown (by decide +kernel) hK hM (CW.guest hw (i := i) (by omega)) rfl dX4_night_45 ?_
          refine m_wV 0 [] [] hx hb hml hown hts hK (c_dropBid l E A g M (400 + i) (sGu (dS (cS σ (kR σ)) i) i 1) (sGu (dS (cS σ (kR σ)) i) i 0) (sGu (dS (cS σ (kR σ)) i) i 2) (sGu (dS (cS σ (kR σ)) i) i 3) (sGu (dS (cS σ (kR σ)) i) i 4) (sGu (dS (cS σ (kR σ)) i) i 5) (sGu (dS (cS σ (kR σ)) i) i 6) (CW.guest hw (by omega))) gX4_night_X1_dropBid rfl rfl rfl (by decide +kernel) rfl ⟨Nat.le_of_ble_eq_true rfl, Nat.le_of_ble_eq_true rfl⟩ hM (CW.guest hw (i := i) (by omega)) rfl rfl hM hl.1 (Nat.le_of_ble_eq_true rfl) ⟨Nat.le_of_ble_eq_true rfl, Nat.le_of_ble_eq_true rfl⟩ rfl dX4_night_48 hS (fun _ _ h => h) (fun _ h => h) (fun H locs hQ hz hk hS => ?_)
          refine W.eq (g2 := F0 m 51 ls []) rfl ?_
          obtain ⟨M, hM, hw, hp, hd⟩ : ∃ M', mP E A g M' H ∧ CX E g M' (uU (uU (dS (cS σ (kR σ)) i) i 3 (-1)) i 4 0) := ⟨_, hQ, CX.bid ⟨hw, hp, hd⟩ hvd (by omega) _ _⟩
          refine lv_iinc (v := nI (i + 1)) (lv' := [(1, .int (nI (i + 1))), (0, .ref (g 0))]) hx hb dX4_night_51 hl (k := 0) rfl (m_inc _) (by decide) rfl (fun ls hl => ?_)
          refine lv_goto (tgt := 26) hx hb dX4_night_54 (by decide) ?_
          exact ih26 (i + 1) (by omega) _ _ _ ⟨hM, hw, hp, hd⟩ hS ls (lv_sub hl [0, 1] rfl)
      exact lp26 (kU σ) 0 (by omega) _ _ _ ⟨hM, hw, hp, hd⟩ hS ls (lv_sub hl [0, 1] rfl)
    | succ n2 ih2 =>
      intro i hi2 H locs M hI hS ls hl
      obtain ⟨hM, hw, hp, hd⟩ := hI
      have k9 := cS_k σ i
      have kR9 : kR (cS σ i) = kR σ := congrArg (fun q => q.1) k9
      have kG9 : kG (cS σ i) = kG σ := congrArg (fun q => q.2.1) k9
      have kU9 : kU (cS σ i) = kU σ := congrArg (fun q => q.2.2.1) k9
      have hL1 : LW E g M 1 7 100 (kR σ) := kR9 ▸ CW.LR hw
      obtain ⟨mc1, el1, h1, -⟩ := id hL1
      have hL2 : LW E g M 2 8 200 (kG σ) := kG9 ▸ CW.LG hw
      obtain ⟨mc2, el2, h2, -⟩ := id hL2
      have hL3 : LW E g M 3 9 400 (kU σ) := kU9 ▸ CW.LU hw
      obtain ⟨mc3, el3, h3, -⟩ := id hL3
      have hvc := VS.cS_ok hv i
      have hlt2 : i < kR σ := by omega
      refine lv_iload_n hx hb dX4_night_2 rfl (lv_at hl 0 rfl) ?_
      refine lv_aload_n hx hb dX4_night_3 rfl (lv_at hl 1 rfl) ?_
      refine m_get hx hb hts in_X4_night_X4 hown hK hM (CW.x hw) rfl 0 (by decide) (by decide +kernel) rfl dX4_night_4 ?_
      refine m_cV 0 [] [.int (nI i)] hx hb hml hown hts hK (c_size l E A g M hL1) gX4_night_Jx4a65c_size_8abf5 rfl rfl rfl (by decide +kernel) rfl ⟨Nat.le_of_ble_eq_true rfl, Nat.le_of_ble_eq_true rfl⟩ hM h1 rfl rfl hM hl.1 (Nat.le_of_ble_eq_true rfl) ⟨Nat.le_of_ble_eq_true rfl, Nat.le_of_ble_eq_true rfl⟩ rfl dX4_night_7 ?_
      refine lv_icmp_ge (tgt := 24) hx hb dX4_night_10 (by decide) (fun c9 => absurd c9 (nI_ge hlt2 (by omega))) (fun c10 => ?_)
      refine lv_aload_n hx hb dX4_night_13 rfl (lv_at hl 1 rfl) ?_
      refine lv_iload_n hx hb dX4_night_14 rfl (lv_at hl 0 rfl) ?_
      refine m_wV 1 [.int (nI i)] [] hx hb hml hown hts hK (c_letRoom l E A g M (cS σ i) hvc hw hp hd i (by omega)) gX4_night_X4_letRoom rfl rfl rfl (by decide +kernel) rfl ⟨Nat.le_of_ble_eq_true rfl, Nat.le_of_ble_eq_true rfl⟩ hM (CW.x hw) rfl rfl hM hl.1 (Nat.le_of_ble_eq_true rfl) ⟨Nat.le_of_ble_eq_true rfl, Nat.le_of_ble_eq_true rfl⟩ rfl dX4_night_15 hS (fun _ _ h => h) (fun _ h => h) (fun H locs hQ hz hk hS => ?_)
      refine W.eq (g2 := F0 m 18 ls []) rfl ?_
      obtain ⟨M, hM, hw, hp, hd⟩ := hQ
      refine lv_iinc (v := nI (i + 1)) (lv' := [(1, .int (nI (i + 1))), (0, .ref (g 0))]) hx hb dX4_night_18 hl (k := 0) rfl (m_inc _) (by decide) rfl (fun ls hl => ?_)
      refine lv_goto (tgt := 2) hx hb dX4_night_21 (by decide) ?_
      exact ih2 (i + 1) (by omega) _ _ _ ⟨hM, hw, hp, hd⟩ hS ls (lv_sub hl [0, 1] rfl)
  exact lp2 (kR σ) 0 (by omega) _ _ _ ⟨hM, hw, hp, hd⟩ hS ls (lv_sub hl [0, 1] rfl)
/-- a ghost's rooms from its home on -/
def plR (σ : Sg) (r : Nat) : Nat → Nat
  | 0 => r
  | k + 1 => nxt (sJn σ (plR σ r k)) (plR σ r k)
theorem plR_lt {σ : Sg} (hv : VS σ) {r : Nat} (hr : r < kR σ) : ∀ k, plR σ r k < kR σ
  | 0 => hr
  | k + 1 => nxt_lt hv (plR_lt hv hr k)
theorem plR_N {σ : Sg} {i r : Nat} (hr : r < 2 ^ 31) (h : sGh σ i 0 = nI r) : ∀ k, plN σ i k = plR σ r k
  | 0 => by rw [plN, h, nI_clamp hr]; rfl
  | k + 1 => by rw [plN, plR_N hr h k]; rfl
def plV (σ : Sg) (r w : Nat) (be : Int32) (h : Nat) : Int32 := if nI w ≤ nI h ∧ nI h < be then nI (plR σ r (h - w)) else -1
theorem plV_c {σ : Sg} {i r w : Nat} (hr : r < 2 ^ 31) (hw : w < 2 ^ 31) (h1 : sGh σ i 0 = nI r) (h2 : sGh σ i 2 = nI w) (h : Nat) : plc σ i h = plV σ r w (sGh σ i 3) h := by
  rw [plc, plV, h2, nI_clamp hw, plR_N hr h1]
theorem mu_id {M : gM} {t : Nat} {e : va_E} (h : M t = some e) : mu M t e = M := by
  funext u
  by_cases q : u = t
  · subst q; rw [mu_s, h]
  · rw [mu_n q]
theorem pw_step {σ : Sg} {r w : Nat} {be : Int32} {f : Nat → Int32} {i : Nat} {x : Int32} (hi : i < 2 ^ 31) (hf : ∀ h, h < i → f h = plV σ r w be h) (hx : x = plV σ r w be i) : ∀ h, h < i + 1 → upd f (nI i).toNatClampNeg x h = plV σ r w be h := by
  intro h hh
  rw [nI_clamp hi]
  by_cases e : h = i
  · subst e; rw [pk_us]; exact hx
  · rw [pk_un e]; exact hf h (by omega)
theorem in_X4_planWay_X0 : ∀ w ∈ u_ws RX0 TX0 5, w ∈ wsX4_planWay := by decide +kernel
set_option maxHeartbeats 4000000 in
set_option maxRecDepth 100000 in
theorem c_planWay (l : Launch) (E : gE) (A : Nat → Prop) (g : Nat → Nat) (M : gM) (σ : Sg) (hv : VS σ) (hw : CW E g M σ) (tg tp : Nat) (fr be : Int32) (r0 w0 : Nat) (hr0 : r0 < kR σ) (hw0 : w0 < 12) (hg : M tg = some (.inr (1, [.int (nI r0), .int fr, .int (nI w0), .int be, .ref (g tp)]))) (f0 : Nat → Int32) (hf0 : M tp = some (.inl (E.2.1, 12, .inl f0))) (htp : 300 ≤ tp ∧ tp < 400) (htg : tg ≠ tp) : Met l yX4_planWay wsX4_planWay ({ frames := 4, cells := 0, slots := 0, locals := 88 } : Room) (Pm E [.ref (g 0), .ref (g tg)] (mP E A g M)) (QW none (fun H => ∃ f : Nat → Int32, mP E A g (mu M tp (.inl (E.2.1, 12, .inl f))) H ∧ ∀ h, h < 12 → f h = plV σ r0 w0 be h) A) 0 0 A := by
  refine m_entry (by decide) rfl (Nat.le_of_ble_eq_true rfl) ?_
  intro p e s m args below meth c hx hb hr hml hts hown hlocks hin hM hK ls hl
  have hl : lv_has ls 4 [(0, .ref (g 0)), (1, .ref (g tg))] := hl
  have hown : s.vm.findClass RX4 = some m.cls := hown
  have hS : va_S A s.heap s.heap [] := va_S.rf
  skip
  obtain ⟨⟨hR9, hG9, hU9, hD9⟩, -⟩ := id hv
  obtain ⟨mc1, el1, h1, -⟩ := CW.LR hw
  obtain ⟨mc2, el2, h2, -⟩ := CW.LG hw
  obtain ⟨mc3, el3, h3, -⟩ := CW.LU hw
  refine lv_aload_n hx hb dX4_planWay_0 rfl (lv_at hl 1 rfl) ?_
  refine m_get hx hb hts in_X4_planWay_X0 hown hK hM hg rfl 0 (by decide) (by decide +kernel) rfl dX4_planWay_1 ?_
  refine lv_istore_n (lv' := [(2, .int (nI r0)), (0, .ref (g 0)), (1, .ref (g tg))]) hx hb dX4_planWay_4 rfl hl (by decide) rfl (fun ls hl => ?_)
  refine lv_iconst (v := 0) hx hb dX4_planWay_5 (by decide) ?_
  refine lv_istore_n (lv' := [(3, .int 0), (2, .int (nI r0)), (0, .ref (g 0)), (1, .ref (g tg))]) hx hb dX4_planWay_6 rfl hl (by decide) rfl (fun ls hl => ?_)
  have lp7 : ∀ (n7 i : Nat), n7 + i = 12 → ∀ (H : Heap) (locs : List Loc) (f : Nat → Int32), (mP E A g (mu M tp (.inl (E.2.1, 12, .inl f))) H ∧ ∀ h, h < i → f h = plV σ r0 w0 be h) → va_S A s.heap H locs → ∀ x2 : Int32, x2 = nI (plR σ r0 (i - 1 - w0)) → ∀ ls : Array Slot, lv_has ls 4 [(3, .int (nI i)), (2, .int x2), (0, .ref (g 0)), (1, .ref (g tg))] → W p l e ({ frames := 4, cells := 0, slots := 0, locals := 88 } : Room) s m args below meth c H locs 0 0 (MQ below (QW none (fun H => ∃ f : Nat → Int32, mP E A g (mu M tp (.inl (E.2.1, 12, .inl f))) H ∧ ∀ h, h < 12 → f h = plV σ r0 w0 be h) A) args s 0 0 A) (F0 m 7 ls []) := by
    intro n7
    induction n7 with
    | zero =>
      intro i hi7 H locs f hI hS x2 ex2 ls hl
      obtain ⟨hM, hf⟩ := hI
      have hw2 := CW.mu_p (e := .inl (E.2.1, 12, .inl f)) hw htp.1 htp.2 ⟨hR9, hG9, hU9⟩
      have hlt8 := plR_lt hv hr0 (i - 1 - w0)
      obtain rfl : 12 = i := by omega
      subst ex2
      refine lv_iload_n hx hb dX4_planWay_7 rfl (lv_at hl 0 rfl) ?_
      refine lv_bipush (v := 12) hx hb dX4_planWay_8 (by decide) ?_
      refine lv_icmp_ge (tgt := 51) hx hb dX4_planWay_10 (by decide) (fun c10 => ?_) (fun c9 => absurd (Int32.le_refl _) c9)
      exact w_v hx hb hr hlocks dX4_planWay_51 hS (Nat.le_of_ble_eq_true rfl) (Nat.le_of_ble_eq_true rfl) (⟨f, hM, hf⟩)
    | succ n7 ih7 =>
      intro i hi7 H locs f hI hS x2 ex2 ls hl
      obtain ⟨hM, hf⟩ := hI
      have hw2 := CW.mu_p (e := .inl (E.2.1, 12, .inl f)) hw htp.1 htp.2 ⟨hR9, hG9, hU9⟩
      have hlt8 := plR_lt hv hr0 (i - 1 - w0)
      have hlt7 : i < 12 := by omega
      subst ex2
      refine lv_iload_n hx hb dX4_planWay_7 rfl (lv_at hl 0 rfl) ?_
      refine lv_bipush (v := 12) hx hb dX4_planWay_8 (by decide) ?_
      refine lv_icmp_ge (tgt := 51) hx hb dX4_planWay_10 (by decide) (fun c9 => absurd c9 (nI_ge (b := 12) hlt7 (by omega))) (fun c10 => ?_)
      refine lv_iload_n hx hb dX4_planWay_13 rfl (lv_at hl 0 rfl) ?_
      refine lv_aload_n hx hb dX4_planWay_14 rfl (lv_at hl 3 rfl) ?_
      refine m_get hx hb hts in_X4_planWay_X0 hown hK hM ((mu_n htg).trans hg) rfl 2 (by decide) (by decide +kernel) rfl dX4_planWay_15 ?_
      refine lv_icmp_le (tgt := 27) hx hb dX4_planWay_18 (by decide) (fun c18 => ?_) (fun c18 => ?_)
      · have hi18 : i ≤ w0 := Nat.le_of_not_lt (fun q => absurd (nI_lt q (by omega)) (Int32.not_lt.mpr c18))
        have hx18 : plR σ r0 (i - 1 - w0) = plR σ r0 (i - w0) := by rw [show i - 1 - w0 = i - w0 by omega]
        rw [hx18] at hl hlt8
        refine lv_aload_n hx hb dX4_planWay_27 rfl (lv_at hl 3 rfl) ?_
        refine lv_iload_n hx hb dX4_planWay_28 rfl (lv_at hl 0 rfl) ?_
        refine lv_aload_n hx hb dX4_planWay_29 rfl (lv_at hl 3 rfl) ?_
        refine lv_iload_n hx hb dX4_planWay_30 rfl (lv_at hl 0 rfl) ?_
        refine m_cV 1 [.int (nI i)] [.int (nI i), .ref (g tg)] hx hb hml hown hts hK (c_isAwakeIn l E A g (mu M tp (.inl (E.2.1, 12, .inl f))) tg tp (nI r0) fr (nI w0) be ((mu_n htg).trans hg) (nI i)) gX4_planWay_X0_isAwakeIn rfl rfl rfl (by decide +kernel) rfl ⟨Nat.le_of_ble_eq_true rfl, Nat.le_of_ble_eq_true rfl⟩ hM ((mu_n htg).trans hg) rfl rfl hM hl.1 (Nat.le_of_ble_eq_true rfl) ⟨Nat.le_of_ble_eq_true rfl, Nat.le_of_ble_eq_true rfl⟩ rfl dX4_planWay_31 ?_
        refine lv_if_eq (tgt := 41) hx hb dX4_planWay_34 (by decide) (fun c34 => ?_) (fun c34 => ?_)
        · have c34 := of_decide_eq_false (bI_f c34)
          refine lv_iconst (v := (-1)) hx hb dX4_planWay_41 (by decide) ?_
          refine m_wV 2 [.int (nI i), .int (-1)] [] hx hb hml hown hts hK (c_setPlace l E A g (mu M tp (.inl (E.2.1, 12, .inl f))) tg tp (nI r0) fr (nI w0) be ((mu_n htg).trans hg) f mu_s (Ne.symm htg) i (by omega) (-1)) gX4_planWay_X0_setPlace rfl rfl rfl (by decide +kernel) rfl ⟨Nat.le_of_ble_eq_true rfl, Nat.le_of_ble_eq_true rfl⟩ hM ((mu_n htg).trans hg) rfl rfl hM hl.1 (Nat.le_of_ble_eq_true rfl) ⟨Nat.le_of_ble_eq_true rfl, Nat.le_of_ble_eq_true rfl⟩ rfl dX4_planWay_42 hS (fun _ _ h => h) (fun _ h => h) (fun H locs hQ hz hk hS => ?_)
          refine W.eq (g2 := F0 m 45 ls []) rfl ?_
          rw [mu_mu] at hQ
          refine lv_iinc (v := nI (i + 1)) (lv' := [(3, .int (nI (i + 1))), (2, .int (nI (plR σ r0 (i - w0)))), (0, .ref (g 0)), (1, .ref (g tg))]) hx hb dX4_planWay_45 hl (k := 0) rfl (m_inc _) (by decide) rfl (fun ls hl => ?_)
          refine lv_goto (tgt := 7) hx hb dX4_planWay_48 (by decide) ?_
          exact ih7 (i + 1) (by omega) _ _ _ ⟨hQ, pw_step (by omega) hf (by rw [plV, if_neg c34])⟩ hS _ (by rw [show i + 1 - 1 - w0 = i - w0 by omega]) ls (lv_sub hl [0, 1, 2, 3] rfl)
        · have c34 := of_decide_eq_true (bI_t c34)
          refine lv_iload_n hx hb dX4_planWay_37 rfl (lv_at hl 1 rfl) ?_
          refine lv_goto (tgt := 42) hx hb dX4_planWay_38 (by decide) ?_
          refine m_wV 2 [.int (nI i), .int (nI (plR σ r0 (i - w0)))] [] hx hb hml hown hts hK (c_setPlace l E A g (mu M tp (.inl (E.2.1, 12, .inl f))) tg tp (nI r0) fr (nI w0) be ((mu_n htg).trans hg) f mu_s (Ne.symm htg) i (by omega) (nI (plR σ r0 (i - w0)))) gX4_planWay_X0_setPlace rfl rfl rfl (by decide +kernel) rfl ⟨Nat.le_of_ble_eq_true rfl, Nat.le_of_ble_eq_true rfl⟩ hM ((mu_n htg).trans hg) rfl rfl hM hl.1 (Nat.le_of_ble_eq_true rfl) ⟨Nat.le_of_ble_eq_true rfl, Nat.le_of_ble_eq_true rfl⟩ rfl dX4_planWay_42 hS (fun _ _ h => h) (fun _ h => h) (fun H locs hQ hz hk hS => ?_)
          refine W.eq (g2 := F0 m 45 ls []) rfl ?_
          rw [mu_mu] at hQ
          refine lv_iinc (v := nI (i + 1)) (lv' := [(3, .int (nI (i + 1))), (2, .int (nI (plR σ r0 (i - w0)))), (0, .ref (g 0)), (1, .ref (g tg))]) hx hb dX4_planWay_45 hl (k := 0) rfl (m_inc _) (by decide) rfl (fun ls hl => ?_)
          refine lv_goto (tgt := 7) hx hb dX4_planWay_48 (by decide) ?_
          exact ih7 (i + 1) (by omega) _ _ _ ⟨hQ, pw_step (by omega) hf (by rw [plV, if_pos c34])⟩ hS _ (by rw [show i + 1 - 1 - w0 = i - w0 by omega]) ls (lv_sub hl [0, 1, 2, 3] rfl)
      · have hi18 : w0 < i := Nat.lt_of_not_le (fun q => c18 (nI_le q (by omega)))
        refine lv_aload_n hx hb dX4_planWay_21 rfl (lv_at hl 2 rfl) ?_
        refine lv_iload_n hx hb dX4_planWay_22 rfl (lv_at hl 1 rfl) ?_
        refine m_cV 1 [.int (nI (plR σ r0 (i - 1 - w0)))] [] hx hb hml hown hts hK (c_nextRoom l E A g (mu M tp (.inl (E.2.1, 12, .inl f))) σ hv hw2 (plR σ r0 (i - 1 - w0)) (by omega)) gX4_planWay_X4_nextRoom rfl rfl rfl (by decide +kernel) rfl ⟨Nat.le_of_ble_eq_true rfl, Nat.le_of_ble_eq_true rfl⟩ hM (CW.x hw2) rfl rfl hM hl.1 (Nat.le_of_ble_eq_true rfl) ⟨Nat.le_of_ble_eq_true rfl, Nat.le_of_ble_eq_true rfl⟩ rfl dX4_planWay_23 ?_
        refine lv_istore_n (lv' := [(2, .int (nI (nxt (sJn σ (plR σ r0 (i - 1 - w0))) (plR σ r0 (i - 1 - w0))))), (3, .int (nI i)), (0, .ref (g 0)), (1, .ref (g tg))]) hx hb dX4_planWay_26 rfl hl (by decide) rfl (fun ls hl => ?_)
        have hx27 : nxt (sJn σ (plR σ r0 (i - 1 - w0))) (plR σ r0 (i - 1 - w0)) = plR σ r0 (i - w0) := by rw [show i - w0 = (i - 1 - w0) + 1 by omega]; rfl
        rw [hx27] at hl
        refine lv_aload_n hx hb dX4_planWay_27 rfl (lv_at hl 3 rfl) ?_
        refine lv_iload_n hx hb dX4_planWay_28 rfl (lv_at hl 1 rfl) ?_
        refine lv_aload_n hx hb dX4_planWay_29 rfl (lv_at hl 3 rfl) ?_
        refine lv_iload_n hx hb dX4_planWay_30 rfl (lv_at hl 1 rfl) ?_
        refine m_cV 1 [.int (nI i)] [.int (nI i), .ref (g tg)] hx hb hml hown hts hK (c_isAwakeIn l E A g (mu M tp (.inl (E.2.1, 12, .inl f))) tg tp (nI r0) fr (nI w0) be ((mu_n htg).trans hg) (nI i)) gX4_planWay_X0_isAwakeIn rfl rfl rfl (by decide +kernel) rfl ⟨Nat.le_of_ble_eq_true rfl, Nat.le_of_ble_eq_true rfl⟩ hM ((mu_n htg).trans hg) rfl rfl hM hl.1 (Nat.le_of_ble_eq_true rfl) ⟨Nat.le_of_ble_eq_true rfl, Nat.le_of_ble_eq_true rfl⟩ rfl dX4_planWay_31 ?_
        refine lv_if_eq (tgt := 41) hx hb dX4_planWay_34 (by decide) (fun c34 => ?_) (fun c34 => ?_)
        · have c34 := of_decide_eq_false (bI_f c34)
          refine lv_iconst (v := (-1)) hx hb dX4_planWay_41 (by decide) ?_
          refine m_wV 2 [.int (nI i), .int (-1)] [] hx hb hml hown hts hK (c_setPlace l E A g (mu M tp (.inl (E.2.1, 12, .inl f))) tg tp (nI r0) fr (nI w0) be ((mu_n htg).trans hg) f mu_s (Ne.symm htg) i (by omega) (-1)) gX4_planWay_X0_setPlace rfl rfl rfl (by decide +kernel) rfl ⟨Nat.le_of_ble_eq_true rfl, Nat.le_of_ble_eq_true rfl⟩ hM ((mu_n htg).trans hg) rfl rfl hM hl.1 (Nat.le_of_ble_eq_true rfl) ⟨Nat.le_of_ble_eq_true rfl, Nat.le_of_ble_eq_true rfl⟩ rfl dX4_planWay_42 hS (fun _ _ h => h) (fun _ h => h) (fun H locs hQ hz hk hS => ?_)
          refine W.eq (g2 := F0 m 45 ls []) rfl ?_
          rw [mu_mu] at hQ
          refine lv_iinc (v := nI (i + 1)) (lv' := [(3, .int (nI (i + 1))), (2, .int (nI (plR σ r0 (i - w0)))), (0, .ref (g 0)), (1, .ref (g tg))]) hx hb dX4_planWay_45 hl (k := 1) rfl (m_inc _) (by decide) rfl (fun ls hl => ?_)
          refine lv_goto (tgt := 7) hx hb dX4_planWay_48 (by decide) ?_
          exact ih7 (i + 1) (by omega) _ _ _ ⟨hQ, pw_step (by omega) hf (by rw [plV, if_neg c34])⟩ hS _ (by rw [show i + 1 - 1 - w0 = i - w0 by omega]) ls (lv_sub hl [0, 1, 2, 3] rfl)
        · have c34 := of_decide_eq_true (bI_t c34)
          refine lv_iload_n hx hb dX4_planWay_37 rfl (lv_at hl 0 rfl) ?_
          refine lv_goto (tgt := 42) hx hb dX4_planWay_38 (by decide) ?_
          refine m_wV 2 [.int (nI i), .int (nI (plR σ r0 (i - w0)))] [] hx hb hml hown hts hK (c_setPlace l E A g (mu M tp (.inl (E.2.1, 12, .inl f))) tg tp (nI r0) fr (nI w0) be ((mu_n htg).trans hg) f mu_s (Ne.symm htg) i (by omega) (nI (plR σ r0 (i - w0)))) gX4_planWay_X0_setPlace rfl rfl rfl (by decide +kernel) rfl ⟨Nat.le_of_ble_eq_true rfl, Nat.le_of_ble_eq_true rfl⟩ hM ((mu_n htg).trans hg) rfl rfl hM hl.1 (Nat.le_of_ble_eq_true rfl) ⟨Nat.le_of_ble_eq_true rfl, Nat.le_of_ble_eq_true rfl⟩ rfl dX4_planWay_42 hS (fun _ _ h => h) (fun _ h => h) (fun H locs hQ hz hk hS => ?_)
          refine W.eq (g2 := F0 m 45 ls []) rfl ?_
          rw [mu_mu] at hQ
          refine lv_iinc (v := nI (i + 1)) (lv' := [(3, .int (nI (i + 1))), (2, .int (nI (plR σ r0 (i - w0)))), (0, .ref (g 0)), (1, .ref (g tg))]) hx hb dX4_planWay_45 hl (k := 1) rfl (m_inc _) (by decide) rfl (fun ls hl => ?_)
          refine lv_goto (tgt := 7) hx hb dX4_planWay_48 (by decide) ?_
          exact ih7 (i + 1) (by omega) _ _ _ ⟨hQ, pw_step (by omega) hf (by rw [plV, if_pos c34])⟩ hS _ (by rw [show i + 1 - 1 - w0 = i - w0 by omega]) ls (lv_sub hl [0, 1, 2, 3] rfl)
  exact lp7 (12) 0 (by omega) _ _ f0 ⟨by rw [mu_id hf0]; exact hM, fun h hh => absurd hh (Nat.not_lt_zero h)⟩ hS _ (by rw [show 0 - 1 - w0 = 0 by omega]; rfl) ls (lv_sub hl [0, 1, 2, 3] rfl)
/-- the class's world while its ways are planned: the ghosts before i have theirs -/
def WA (E : gE) (g : Nat → Nat) (M : gM) (σ : Sg) (i : Nat) : Prop := CW E g M σ ∧ CD M σ ∧ ∀ a, a < kG σ → ∃ f : Nat → Int32, M (300 + a) = some (.inl (E.2.1, 12, .inl f)) ∧ (a < i → ∀ h, h < 12 → f h = plc σ a h)
section
variable {E : gE} {g : Nat → Nat} {M : gM} {σ : Sg}
theorem WA.of (h : CX E g M σ) : WA E g M σ 0 := ⟨h.1, h.2.2, fun a ha => by
  obtain ⟨f, h1, -⟩ := h.2.1 a ha
  exact ⟨f, h1, fun q => absurd q (by omega)⟩⟩
theorem WA.to (h : WA E g M σ (kG σ)) : CX E g M σ := ⟨h.1, fun a ha => by
  obtain ⟨f, h1, h2⟩ := h.2.2 a ha
  exact ⟨f, h1, h2 ha⟩, h.2.1⟩
theorem WA.step {i : Nat} (h : WA E g M σ i) (hb : kR σ ≤ 10 ∧ kG σ ≤ 5 ∧ kU σ ≤ 12) (hi : i < kG σ) {f : Nat → Int32} (hf : ∀ q, q < 12 → f q = plc σ i q) : WA E g (mu M (300 + i) (.inl (E.2.1, 12, .inl f))) σ (i + 1) := by
  obtain ⟨f0, h0, -⟩ := h.2.2 i hi
  refine ⟨h.1.mu_p (by omega) (by omega) hb, h.2.1.mu h0, fun a ha => ?_⟩
  by_cases e : a = i
  · subst e; exact ⟨f, mu_s, fun _ => hf⟩
  · obtain ⟨f1, h1, h2⟩ := h.2.2 a ha
    exact ⟨f1, by rw [mu_n (by omega)]; exact h1, fun q => h2 (by omega)⟩
theorem WA.putJ {r : Nat} (h : WA E g M σ 0) (hb : kR σ ≤ 10 ∧ kG σ ≤ 5 ∧ kU σ ≤ 12) (hr : r < kR σ) (b : Int32) : WA E g (mu M (100 + r) (.inr (3, [.int (sRm σ r 0), .int (sRm σ r 2), .int (sRm σ r 1), .int (sRm σ r 3), .int (sRm σ r 4), .int b]))) (uJ σ r b) 0 := by
  have h9 := h.1.putR (v := sRm σ) (w := fun a => if a = r then b else sJn σ a) hb hr (fun _ _ _ _ => rfl) (fun i hi => if_neg hi)
  have e : roomE (uJ σ r b) r = .inr (3, [.int (sRm σ r 0), .int (sRm σ r 2), .int (sRm σ r 1), .int (sRm σ r 3), .int (sRm σ r 4), .int b]) := by
    have e1 : sRm (uJ σ r b) = sRm σ := rfl
    have e2 : sJn (uJ σ r b) r = b := if_pos rfl
    unfold roomE
    rw [e1, e2]
  rw [← e]
  refine ⟨h9, h.2.1.mu (h.1.room hr), fun a ha => ?_⟩
  obtain ⟨f, h1, -⟩ := h.2.2 a ha
  exact ⟨f, by rw [mu_n (by have := hb.2.1; have : a < kG σ := ha; omega)]; exact h1, fun q => absurd q (by omega)⟩
theorem WA.putX {d : Nat} (h : WA E g M σ 0) (hb : kR σ ≤ 10 ∧ kG σ ≤ 5 ∧ kU σ ≤ 12) : WA E g (mu M 0 (.inr (5, [.ref (g 1), .ref (g 2), .ref (g 3), .ref (g 4), .int (nI d), .int (sN σ), .int (sH σ), .int (sB σ)]))) (uK σ (kR σ) (kG σ) (kU σ) d) 0 := by
  refine ⟨h.1.putX hb, h.2.1.mu h.1.x, fun a ha => ?_⟩
  obtain ⟨f, h1, -⟩ := h.2.2 a ha
  exact ⟨f, by rw [mu_n (by omega)]; exact h1, fun q => absurd q (by omega)⟩
theorem drS_eq {a b : Nat} (hab : ¬ a = b) : drS σ a b = uK (uJ (uJ σ a (sJn σ a ||| (1 <<< (nI b &&& 31)))) b (sJn (uJ σ a (sJn σ a ||| (1 <<< (nI b &&& 31)))) b ||| (1 <<< (nI a &&& 31)))) (kR σ) (kG σ) (kU σ) (kD σ + 1) := by
  rw [drS, show sJn (uJ σ a (sJn σ a ||| (1 <<< (nI b &&& 31)))) b = sJn σ b from if_neg (fun q => hab q.symm)]
end
theorem in_X4_planAllWays_X4 : ∀ w ∈ u_ws RX4 TX4 8, w ∈ wsX4_planAllWays := by decide +kernel
set_option maxHeartbeats 4000000 in
set_option maxRecDepth 100000 in
theorem c_planAll (l : Launch) (E : gE) (A : Nat → Prop) (g : Nat → Nat) (M : gM) (σ : Sg) (hv : VS σ) (hw : CW E g M σ) (hWA : WA E g M σ 0) : Met l yX4_planAllWays wsX4_planAllWays ({ frames := 5, cells := 0, slots := 0, locals := 111 } : Room) (Pm E [.ref (g 0)] (mP E A g M)) (QW none (fun H => ∃ M', mP E A g M' H ∧ CX E g M' σ) A) 0 0 A := by
  refine m_entry (by decide) rfl (Nat.le_of_ble_eq_true rfl) ?_
  intro p e s m args below meth c hx hb hr hml hts hown hlocks hin hM hK ls hl
  have hl : lv_has ls 2 [(0, .ref (g 0))] := hl
  have hown : s.vm.findClass RX4 = some m.cls := hown
  have hS : va_S A s.heap s.heap [] := va_S.rf
  skip
  obtain ⟨⟨hR9, hG9, hU9, hD9⟩, -⟩ := id hv
  obtain ⟨mc1, el1, h1, -⟩ := CW.LR hw
  obtain ⟨mc2, el2, h2, -⟩ := CW.LG hw
  obtain ⟨mc3, el3, h3, -⟩ := CW.LU hw
  refine lv_iconst (v := 0) hx hb dX4_planAllWays_0 (by decide) ?_
  refine lv_istore_n (lv' := [(1, .int 0), (0, .ref (g 0))]) hx hb dX4_planAllWays_1 rfl hl (by decide) rfl (fun ls hl => ?_)
  have lp2 : ∀ (n2 i : Nat), n2 + i = kG σ → ∀ (H : Heap) (locs : List Loc) (M : gM), (mP E A g M H ∧ WA E g M σ i) → va_S A s.heap H locs → ∀ ls : Array Slot, lv_has ls 2 [(1, .int (nI i)), (0, .ref (g 0))] → W p l e ({ frames := 5, cells := 0, slots := 0, locals := 111 } : Room) s m args below meth c H locs 0 0 (MQ below (QW none (fun H => ∃ M', mP E A g M' H ∧ CX E g M' σ) A) args s 0 0 A) (F0 m 2 ls []) := by
    intro n2
    induction n2 with
    | zero =>
      intro i hi2 H locs M hI hS ls hl
      obtain ⟨hM, hWA⟩ := hI
      have hw := hWA.1
      obtain ⟨mc1, el1, h1, -⟩ := CW.LR hw
      obtain ⟨mc2, el2, h2, -⟩ := CW.LG hw
      obtain ⟨mc3, el3, h3, -⟩ := CW.LU hw
      obtain rfl : kG σ = i := by omega
      refine lv_iload_n hx hb dX4_planAllWays_2 rfl (lv_at hl 0 rfl) ?_
      refine lv_aload_n hx hb dX4_planAllWays_3 rfl (lv_at hl 1 rfl) ?_
      refine m_get hx hb hts in_X4_planAllWays_X4 hown hK hM (CW.x hw) rfl 1 (by decide) (by decide +kernel) rfl dX4_planAllWays_4 ?_
      refine m_cV 0 [] [.int (nI (kG σ))] hx hb hml hown hts hK (c_size l E A g M (CW.LG hw)) gX4_planAllWays_Jx4a65c_size_8abf5 rfl rfl rfl (by decide +kernel) rfl ⟨Nat.le_of_ble_eq_true rfl, Nat.le_of_ble_eq_true rfl⟩ hM h2 rfl rfl hM hl.1 (Nat.le_of_ble_eq_true rfl) ⟨Nat.le_of_ble_eq_true rfl, Nat.le_of_ble_eq_true rfl⟩ rfl dX4_planAllWays_7 ?_
      refine lv_icmp_ge (tgt := 34) hx hb dX4_planAllWays_10 (by decide) (fun c10 => ?_) (fun c9 => absurd (Int32.le_refl _) c9)
      exact w_v hx hb hr hlocks dX4_planAllWays_34 hS (Nat.le_of_ble_eq_true rfl) (Nat.le_of_ble_eq_true rfl) (⟨_, hM, hWA.to⟩)
    | succ n2 ih2 =>
      intro i hi2 H locs M hI hS ls hl
      obtain ⟨hM, hWA⟩ := hI
      have hw := hWA.1
      obtain ⟨mc1, el1, h1, -⟩ := CW.LR hw
      obtain ⟨mc2, el2, h2, -⟩ := CW.LG hw
      obtain ⟨mc3, el3, h3, -⟩ := CW.LU hw
      have hlt2 : i < kG σ := by omega
      refine lv_iload_n hx hb dX4_planAllWays_2 rfl (lv_at hl 0 rfl) ?_
      refine lv_aload_n hx hb dX4_planAllWays_3 rfl (lv_at hl 1 rfl) ?_
      refine m_get hx hb hts in_X4_planAllWays_X4 hown hK hM (CW.x hw) rfl 1 (by decide) (by decide +kernel) rfl dX4_planAllWays_4 ?_
      refine m_cV 0 [] [.int (nI i)] hx hb hml hown hts hK (c_size l E A g M (CW.LG hw)) gX4_planAllWays_Jx4a65c_size_8abf5 rfl rfl rfl (by decide +kernel) rfl ⟨Nat.le_of_ble_eq_true rfl, Nat.le_of_ble_eq_true rfl⟩ hM h2 rfl rfl hM hl.1 (Nat.le_of_ble_eq_true rfl) ⟨Nat.le_of_ble_eq_true rfl, Nat.le_of_ble_eq_true rfl⟩ rfl dX4_planAllWays_7 ?_
      refine lv_icmp_ge (tgt := 34) hx hb dX4_planAllWays_10 (by decide) (fun c9 => absurd c9 (nI_ge hlt2 (by omega))) (fun c10 => ?_)
      refine lv_aload_n hx hb dX4_planAllWays_13 rfl (lv_at hl 1 rfl) ?_
      refine lv_aload_n hx hb dX4_planAllWays_14 rfl (lv_at hl 1 rfl) ?_
      refine m_get hx hb hts in_X4_planAllWays_X4 hown hK hM (CW.x hw) rfl 1 (by decide) (by decide +kernel) rfl dX4_planAllWays_15 ?_
      refine lv_iload_n hx hb dX4_planAllWays_18 rfl (lv_at hl 0 rfl) ?_
      refine m_cV 1 [.int (nI i)] [.ref (g 0)] hx hb hml hown hts hK (c_get l E A g M (CW.LG hw) (by omega) i (by omega)) gX4_planAllWays_Jx4a65c_get_915e3 rfl rfl rfl (by decide +kernel) rfl ⟨Nat.le_of_ble_eq_true rfl, Nat.le_of_ble_eq_true rfl⟩ hM h2 rfl rfl hM hl.1 (Nat.le_of_ble_eq_true rfl) ⟨Nat.le_of_ble_eq_true rfl, Nat.le_of_ble_eq_true rfl⟩ rfl dX4_planAllWays_19 ?_
      refine m_cast (ci := 1) hx hb hts hown (by decide +kernel) hK hM (CW.ghost hw (i := i) (by omega)) rfl dX4_planAllWays_22 ?_
      obtain ⟨r9, w9, hr9, hw8, e0, e2⟩ := hv.2.2.1 i hlt2
      obtain ⟨f9, hf9, -⟩ := hWA.2.2 i hlt2
      refine m_wV 1 [.ref (g (200 + i))] [] hx hb hml hown hts hK (c_planWay l E A g M σ hv hw (200 + i) (300 + i) (sGh σ i 1) (sGh σ i 3) r9 w9 hr9 hw8 (by rw [CW.ghost hw (i := i) hlt2, ghostE, e0, e2]) f9 hf9 ⟨by omega, by omega⟩ (by omega)) gX4_planAllWays_X4_planWay rfl rfl rfl (by decide +kernel) rfl ⟨Nat.le_of_ble_eq_true rfl, Nat.le_of_ble_eq_true rfl⟩ hM (CW.x hw) rfl rfl hM hl.1 (Nat.le_of_ble_eq_true rfl) ⟨Nat.le_of_ble_eq_true rfl, Nat.le_of_ble_eq_true rfl⟩ rfl dX4_planAllWays_25 hS (fun _ _ h => h) (fun _ h => h) (fun H locs hQ hz hk hS => ?_)
      refine W.eq (g2 := F0 m 28 ls []) rfl ?_
      obtain ⟨f8, hM, hf8⟩ := hQ
      refine lv_iinc (v := nI (i + 1)) (lv' := [(1, .int (nI (i + 1))), (0, .ref (g 0))]) hx hb dX4_planAllWays_28 hl (k := 0) rfl (m_inc _) (by decide) rfl (fun ls hl => ?_)
      refine lv_goto (tgt := 2) hx hb dX4_planAllWays_31 (by decide) ?_
      exact ih2 (i + 1) (by omega) _ _ _ ⟨hM, hWA.step ⟨hR9, hG9, hU9⟩ hlt2 (fun q hq => by rw [plV_c (by omega) (by omega) e0 e2]; exact hf8 q hq)⟩ hS ls (lv_sub hl [0, 1] rfl)
  exact lp2 (kG σ) 0 (by omega) _ _ _ ⟨hM, hWA⟩ hS ls (lv_sub hl [0, 1] rfl)
theorem in_X4_door_X4 : ∀ w ∈ u_ws RX4 TX4 8, w ∈ wsX4_door := by decide +kernel
set_option maxHeartbeats 4000000 in
set_option maxRecDepth 100000 in
theorem c_door0 (l : Launch) (E : gE) (A : Nat → Prop) (g : Nat → Nat) (M : gM) (σ : Sg) (hv : VS σ) (hw : CW E g M σ) (hp : PW E M σ) (hd : CD M σ) (a b : Nat) (ha : a < kR σ) (hb9 : b < kR σ) (hab : ¬ a = b) (hbit : bitAt (sJn σ a) b = true) : Met l yX4_door wsX4_door ({ frames := 3, cells := 0, slots := 0, locals := 64 } : Room) (Pm E [.ref (g 0), .int (nI a), .int (nI b)] (mP E A g M)) (QW (some (.int (nI (kD σ)))) (fun H => ∃ M', mP E A g M' H ∧ CX E g M' σ) A) 0 0 A := by
  refine m_entry (by decide) rfl (Nat.le_of_ble_eq_true rfl) ?_
  intro p e s m args below meth c hx hb hr hml hts hown hlocks hin hM hK ls hl
  have hl : lv_has ls 5 [(0, .ref (g 0)), (1, .int (nI a)), (2, .int (nI b))] := hl
  have hown : s.vm.findClass RX4 = some m.cls := hown
  have hS : va_S A s.heap s.heap [] := va_S.rf
  skip
  obtain ⟨⟨hR9, hG9, hU9, hD9⟩, -⟩ := id hv
  obtain ⟨mc1, el1, h1, -⟩ := CW.LR hw
  obtain ⟨mc2, el2, h2, -⟩ := CW.LG hw
  obtain ⟨mc3, el3, h3, -⟩ := CW.LU hw
  refine lv_aload_n hx hb dX4_door_0 rfl (lv_at hl 0 rfl) ?_
  refine lv_iload_n hx hb dX4_door_1 rfl (lv_at hl 1 rfl) ?_
  refine m_cV 1 [.int (nI a)] [] hx hb hml hown hts hK (c_isRoomY l E A g M σ hv hw a (by omega)) gX4_door_X4_isRoom rfl rfl rfl (by decide +kernel) rfl ⟨Nat.le_of_ble_eq_true rfl, Nat.le_of_ble_eq_true rfl⟩ hM (CW.x hw) rfl rfl hM hl.1 (Nat.le_of_ble_eq_true rfl) ⟨Nat.le_of_ble_eq_true rfl, Nat.le_of_ble_eq_true rfl⟩ rfl dX4_door_2 ?_
  refine lv_if_eq (tgt := 16) hx hb dX4_door_5 (by decide) (fun c9 => absurd c9 (by decide)) (fun c9 => ?_)
  refine lv_aload_n hx hb dX4_door_8 rfl (lv_at hl 0 rfl) ?_
  refine lv_iload_n hx hb dX4_door_9 rfl (lv_at hl 2 rfl) ?_
  refine m_cV 1 [.int (nI b)] [] hx hb hml hown hts hK (c_isRoomY l E A g M σ hv hw b (by omega)) gX4_door_X4_isRoom rfl rfl rfl (by decide +kernel) rfl ⟨Nat.le_of_ble_eq_true rfl, Nat.le_of_ble_eq_true rfl⟩ hM (CW.x hw) rfl rfl hM hl.1 (Nat.le_of_ble_eq_true rfl) ⟨Nat.le_of_ble_eq_true rfl, Nat.le_of_ble_eq_true rfl⟩ rfl dX4_door_10 ?_
  refine lv_if_ne (tgt := 26) hx hb dX4_door_13 (by decide) (fun c9 => ?_) (fun c9 => absurd c9 (by decide))
  refine lv_iload_n hx hb dX4_door_26 rfl (lv_at hl 1 rfl) ?_
  refine lv_iload_n hx hb dX4_door_27 rfl (lv_at hl 2 rfl) ?_
  refine lv_icmp_ne (tgt := 41) hx hb dX4_door_28 (by decide) (fun c28 => ?_) (fun c9 => absurd ((nI_eq (by omega) (by omega)).mp c9) hab)
  refine lv_aload_n hx hb dX4_door_41 rfl (lv_at hl 0 rfl) ?_
  refine m_get hx hb hts in_X4_door_X4 hown hK hM (CW.x hw) rfl 0 (by decide) (by decide +kernel) rfl dX4_door_42 ?_
  refine lv_iload_n hx hb dX4_door_45 rfl (lv_at hl 1 rfl) ?_
  refine m_cV 1 [.int (nI a)] [] hx hb hml hown hts hK (c_get l E A g M (CW.LR hw) (by omega) a (by omega)) gX4_door_Jx4a65c_get_915e3 rfl rfl rfl (by decide +kernel) rfl ⟨Nat.le_of_ble_eq_true rfl, Nat.le_of_ble_eq_true rfl⟩ hM h1 rfl rfl hM hl.1 (Nat.le_of_ble_eq_true rfl) ⟨Nat.le_of_ble_eq_true rfl, Nat.le_of_ble_eq_true rfl⟩ rfl dX4_door_46 ?_
  refine m_cast (ci := 3) hx hb hts hown (by decide +kernel) hK hM (CW.room hw (i := a) (by omega)) rfl dX4_door_49 ?_
  refine lv_astore_n (lv' := [(3, .ref (g (100 + a))), (0, .ref (g 0)), (1, .int (nI a)), (2, .int (nI b))]) hx hb dX4_door_52 rfl hl (by decide) rfl (fun ls hl => ?_)
  refine lv_aload_n hx hb dX4_door_53 rfl (lv_at hl 1 rfl) ?_
  refine m_get hx hb hts in_X4_door_X4 hown hK hM (CW.x hw) rfl 0 (by decide) (by decide +kernel) rfl dX4_door_54 ?_
  refine lv_iload_n hx hb dX4_door_57 rfl (lv_at hl 3 rfl) ?_
  refine m_cV 1 [.int (nI b)] [] hx hb hml hown hts hK (c_get l E A g M (CW.LR hw) (by omega) b (by omega)) gX4_door_Jx4a65c_get_915e3 rfl rfl rfl (by decide +kernel) rfl ⟨Nat.le_of_ble_eq_true rfl, Nat.le_of_ble_eq_true rfl⟩ hM h1 rfl rfl hM hl.1 (Nat.le_of_ble_eq_true rfl) ⟨Nat.le_of_ble_eq_true rfl, Nat.le_of_ble_eq_true rfl⟩ rfl dX4_door_58 ?_
  refine m_cast (ci := 3) hx hb hts hown (by decide +kernel) hK hM (CW.room hw (i := b) (by omega)) rfl dX4_door_61 ?_
  refine lv_astore (lv' := [(4, .ref (g (100 + b))), (3, .ref (g (100 + a))), (0, .ref (g 0)), (1, .int (nI a)), (2, .int (nI b))]) hx hb dX4_door_64 hl (by decide) rfl (fun ls hl => ?_)
  refine lv_aload_n hx hb dX4_door_66 rfl (lv_at hl 1 rfl) ?_
  refine lv_iload_n hx hb dX4_door_67 rfl (lv_at hl 4 rfl) ?_
  refine m_cV 1 [.int (nI b)] [] hx hb hml hown hts hK (c_leadsTo l E A g M (100 + a) (sRm σ a 0) (sRm σ a 2) (sRm σ a 1) (sRm σ a 3) (sRm σ a 4) (sJn σ a) (CW.room hw (by omega)) b) gX4_door_X2_leadsTo rfl rfl rfl (by decide +kernel) rfl ⟨Nat.le_of_ble_eq_true rfl, Nat.le_of_ble_eq_true rfl⟩ hM (CW.room hw (i := a) (by omega)) rfl rfl hM hl.1 (Nat.le_of_ble_eq_true rfl) ⟨Nat.le_of_ble_eq_true rfl, Nat.le_of_ble_eq_true rfl⟩ rfl dX4_door_68 ?_
  refine lv_if_eq (tgt := 79) hx hb dX4_door_71 (by decide) (fun c9 => absurd (bI_f c9) (by rw [hbit]; decide)) (fun c71 => ?_)
  have c71 := bI_t c71
  refine lv_aload_n hx hb dX4_door_74 rfl (lv_at hl 2 rfl) ?_
  refine m_get hx hb hts in_X4_door_X4 hown hK hM (CW.x hw) rfl 4 (by decide) (by decide +kernel) rfl dX4_door_75 ?_
  exact w_i hx hb hr hlocks dX4_door_78 hS (Nat.le_of_ble_eq_true rfl) (Nat.le_of_ble_eq_true rfl) (by first | rfl | assumption) (⟨_, hM, hw, hp, hd⟩)
set_option maxHeartbeats 4000000 in
set_option maxRecDepth 100000 in
theorem c_doorOk (l : Launch) (E : gE) (A : Nat → Prop) (g : Nat → Nat) (M : gM) (σ : Sg) (hv : VS σ) (hw : CW E g M σ) (hp : PW E M σ) (hd : CD M σ) (a b : Nat) (ha : a < kR σ) (hb9 : b < kR σ) (hab : ¬ a = b) (hbit : bitAt (sJn σ a) b = false) (hfree : kD σ < 20) (hv2 : VS (drS σ a b)) : Met l yX4_door wsX4_door ({ frames := 6, cells := 0, slots := 0, locals := 132 } : Room) (Pm E [.ref (g 0), .int (nI a), .int (nI b)] (mP E A g M)) (QW (some (.int (nI (kD σ + 1)))) (fun H => ∃ M', mP E A g M' H ∧ CX E g M' (drS σ a b)) A) 0 0 A := by
  refine m_entry (by decide) rfl (Nat.le_of_ble_eq_true rfl) ?_
  intro p e s m args below meth c hx hb hr hml hts hown hlocks hin hM hK ls hl
  have hl : lv_has ls 5 [(0, .ref (g 0)), (1, .int (nI a)), (2, .int (nI b))] := hl
  have hown : s.vm.findClass RX4 = some m.cls := hown
  have hS : va_S A s.heap s.heap [] := va_S.rf
  skip
  obtain ⟨⟨hR9, hG9, hU9, hD9⟩, -⟩ := id hv
  obtain ⟨mc1, el1, h1, -⟩ := CW.LR hw
  obtain ⟨mc2, el2, h2, -⟩ := CW.LG hw
  obtain ⟨mc3, el3, h3, -⟩ := CW.LU hw
  refine lv_aload_n hx hb dX4_door_0 rfl (lv_at hl 0 rfl) ?_
  refine lv_iload_n hx hb dX4_door_1 rfl (lv_at hl 1 rfl) ?_
  refine m_cV 1 [.int (nI a)] [] hx hb hml hown hts hK (c_isRoomY l E A g M σ hv hw a (by omega)) gX4_door_X4_isRoom rfl rfl rfl (by decide +kernel) rfl ⟨Nat.le_of_ble_eq_true rfl, Nat.le_of_ble_eq_true rfl⟩ hM (CW.x hw) rfl rfl hM hl.1 (Nat.le_of_ble_eq_true rfl) ⟨Nat.le_of_ble_eq_true rfl, Nat.le_of_ble_eq_true rfl⟩ rfl dX4_door_2 ?_
  refine lv_if_eq (tgt := 16) hx hb dX4_door_5 (by decide) (fun c9 => absurd c9 (by decide)) (fun c9 => ?_)
  refine lv_aload_n hx hb dX4_door_8 rfl (lv_at hl 0 rfl) ?_
  refine lv_iload_n hx hb dX4_door_9 rfl (lv_at hl 2 rfl) ?_
  refine m_cV 1 [.int (nI b)] [] hx hb hml hown hts hK (c_isRoomY l E A g M σ hv hw b (by omega)) gX4_door_X4_isRoom rfl rfl rfl (by decide +kernel) rfl ⟨Nat.le_of_ble_eq_true rfl, Nat.le_of_ble_eq_true rfl⟩ hM (CW.x hw) rfl rfl hM hl.1 (Nat.le_of_ble_eq_true rfl) ⟨Nat.le_of_ble_eq_true rfl, Nat.le_of_ble_eq_true rfl⟩ rfl dX4_door_10 ?_
  refine lv_if_ne (tgt := 26) hx hb dX4_door_13 (by decide) (fun c9 => ?_) (fun c9 => absurd c9 (by decide))
  refine lv_iload_n hx hb dX4_door_26 rfl (lv_at hl 1 rfl) ?_
  refine lv_iload_n hx hb dX4_door_27 rfl (lv_at hl 2 rfl) ?_
  refine lv_icmp_ne (tgt := 41) hx hb dX4_door_28 (by decide) (fun c28 => ?_) (fun c9 => absurd ((nI_eq (by omega) (by omega)).mp c9) hab)
  refine lv_aload_n hx hb dX4_door_41 rfl (lv_at hl 0 rfl) ?_
  refine m_get hx hb hts in_X4_door_X4 hown hK hM (CW.x hw) rfl 0 (by decide) (by decide +kernel) rfl dX4_door_42 ?_
  refine lv_iload_n hx hb dX4_door_45 rfl (lv_at hl 1 rfl) ?_
  refine m_cV 1 [.int (nI a)] [] hx hb hml hown hts hK (c_get l E A g M (CW.LR hw) (by omega) a (by omega)) gX4_door_Jx4a65c_get_915e3 rfl rfl rfl (by decide +kernel) rfl ⟨Nat.le_of_ble_eq_true rfl, Nat.le_of_ble_eq_true rfl⟩ hM h1 rfl rfl hM hl.1 (Nat.le_of_ble_eq_true rfl) ⟨Nat.le_of_ble_eq_true rfl, Nat.le_of_ble_eq_true rfl⟩ rfl dX4_door_46 ?_
  refine m_cast (ci := 3) hx hb hts hown (by decide +kernel) hK hM (CW.room hw (i := a) (by omega)) rfl dX4_door_49 ?_
  refine lv_astore_n (lv' := [(3, .ref (g (100 + a))), (0, .ref (g 0)), (1, .int (nI a)), (2, .int (nI b))]) hx hb dX4_door_52 rfl hl (by decide) rfl (fun ls hl => ?_)
  refine lv_aload_n hx hb dX4_door_53 rfl (lv_at hl 1 rfl) ?_
  refine m_get hx hb hts in_X4_door_X4 hown hK hM (CW.x hw) rfl 0 (by decide) (by decide +kernel) rfl dX4_door_54 ?_
  refine lv_iload_n hx hb dX4_door_57 rfl (lv_at hl 3 rfl) ?_
  refine m_cV 1 [.int (nI b)] [] hx hb hml hown hts hK (c_get l E A g M (CW.LR hw) (by omega) b (by omega)) gX4_door_Jx4a65c_get_915e3 rfl rfl rfl (by decide +kernel) rfl ⟨Nat.le_of_ble_eq_true rfl, Nat.le_of_ble_eq_true rfl⟩ hM h1 rfl rfl hM hl.1 (Nat.le_of_ble_eq_true rfl) ⟨Nat.le_of_ble_eq_true rfl, Nat.le_of_ble_eq_true rfl⟩ rfl dX4_door_58 ?_
  refine m_cast (ci := 3) hx hb hts hown (by decide +kernel) hK hM (CW.room hw (i := b) (by omega)) rfl dX4_door_61 ?_
  refine lv_astore (lv' := [(4, .ref (g (100 + b))), (3, .ref (g (100 + a))), (0, .ref (g 0)), (1, .int (nI a)), (2, .int (nI b))]) hx hb dX4_door_64 hl (by decide) rfl (fun ls hl => ?_)
  refine lv_aload_n hx hb dX4_door_66 rfl (lv_at hl 1 rfl) ?_
  refine lv_iload_n hx hb dX4_door_67 rfl (lv_at hl 4 rfl) ?_
  refine m_cV 1 [.int (nI b)] [] hx hb hml hown hts hK (c_leadsTo l E A g M (100 + a) (sRm σ a 0) (sRm σ a 2) (sRm σ a 1) (sRm σ a 3) (sRm σ a 4) (sJn σ a) (CW.room hw (by omega)) b) gX4_door_X2_leadsTo rfl rfl rfl (by decide +kernel) rfl ⟨Nat.le_of_ble_eq_true rfl, Nat.le_of_ble_eq_true rfl⟩ hM (CW.room hw (i := a) (by omega)) rfl rfl hM hl.1 (Nat.le_of_ble_eq_true rfl) ⟨Nat.le_of_ble_eq_true rfl, Nat.le_of_ble_eq_true rfl⟩ rfl dX4_door_68 ?_
  refine lv_if_eq (tgt := 79) hx hb dX4_door_71 (by decide) (fun c71 => ?_) (fun c9 => absurd (bI_t c9) (by rw [hbit]; decide))
  have c71 := bI_f c71
  refine lv_aload_n hx hb dX4_door_79 rfl (lv_at hl 2 rfl) ?_
  refine m_get hx hb hts in_X4_door_X4 hown hK hM (CW.x hw) rfl 4 (by decide) (by decide +kernel) rfl dX4_door_80 ?_
  refine lv_bipush (v := 20) hx hb dX4_door_83 (by decide) ?_
  refine lv_icmp_lt (tgt := 98) hx hb dX4_door_85 (by decide) (fun c85 => ?_) (fun c9 => absurd (nI_lt (b := 20) hfree (by decide)) c9)
  refine lv_aload_n hx hb dX4_door_98 rfl (lv_at hl 1 rfl) ?_
  refine lv_iload_n hx hb dX4_door_99 rfl (lv_at hl 4 rfl) ?_
  refine m_wV 1 [.int (nI b)] [] hx hb hml hown hts hK (c_openTo l E A g M (100 + a) (sRm σ a 0) (sRm σ a 2) (sRm σ a 1) (sRm σ a 3) (sRm σ a 4) (sJn σ a) (CW.room hw (by omega)) b) gX4_door_X2_openTo rfl rfl rfl (by decide +kernel) rfl ⟨Nat.le_of_ble_eq_true rfl, Nat.le_of_ble_eq_true rfl⟩ hM (CW.room hw (i := a) (by omega)) rfl rfl hM hl.1 (Nat.le_of_ble_eq_true rfl) ⟨Nat.le_of_ble_eq_true rfl, Nat.le_of_ble_eq_true rfl⟩ rfl dX4_door_100 hS (fun _ _ h => h) (fun _ h => h) (fun H locs hQ hz hk hS => ?_)
  refine W.eq (g2 := F0 m 103 ls []) rfl ?_
  obtain ⟨M, hM, hWA⟩ : ∃ M', mP E A g M' H ∧ WA E g M' (uJ σ a (sJn σ a ||| (1 <<< (nI b &&& 31)))) 0 := ⟨_, hQ, (WA.of ⟨hw, hp, hd⟩).putJ ⟨hR9, hG9, hU9⟩ (by omega) _⟩
  have hw := hWA.1
  have kR9 : kR (uJ σ a (sJn σ a ||| (1 <<< (nI b &&& 31)))) = kR σ := rfl
  have kG9 : kG (uJ σ a (sJn σ a ||| (1 <<< (nI b &&& 31)))) = kG σ := rfl
  have kU9 : kU (uJ σ a (sJn σ a ||| (1 <<< (nI b &&& 31)))) = kU σ := rfl
  refine lv_aload hx hb dX4_door_103 (lv_at hl 0 rfl) ?_
  refine lv_iload_n hx hb dX4_door_105 rfl (lv_at hl 3 rfl) ?_
  refine m_wV 1 [.int (nI a)] [] hx hb hml hown hts hK (c_openTo l E A g M (100 + b) (sRm (uJ σ a (sJn σ a ||| (1 <<< (nI b &&& 31)))) b 0) (sRm (uJ σ a (sJn σ a ||| (1 <<< (nI b &&& 31)))) b 2) (sRm (uJ σ a (sJn σ a ||| (1 <<< (nI b &&& 31)))) b 1) (sRm (uJ σ a (sJn σ a ||| (1 <<< (nI b &&& 31)))) b 3) (sRm (uJ σ a (sJn σ a ||| (1 <<< (nI b &&& 31)))) b 4) (sJn (uJ σ a (sJn σ a ||| (1 <<< (nI b &&& 31)))) b) (CW.room hw (by omega)) a) gX4_door_X2_openTo rfl rfl rfl (by decide +kernel) rfl ⟨Nat.le_of_ble_eq_true rfl, Nat.le_of_ble_eq_true rfl⟩ hM (CW.room hw (i := b) (by omega)) rfl rfl hM hl.1 (Nat.le_of_ble_eq_true rfl) ⟨Nat.le_of_ble_eq_true rfl, Nat.le_of_ble_eq_true rfl⟩ rfl dX4_door_106 hS (fun _ _ h => h) (fun _ h => h) (fun H locs hQ hz hk hS => ?_)
  refine W.eq (g2 := F0 m 109 ls []) rfl ?_
  obtain ⟨M, hM, hWA⟩ : ∃ M', mP E A g M' H ∧ WA E g M' (uJ (uJ σ a (sJn σ a ||| (1 <<< (nI b &&& 31)))) b (sJn (uJ σ a (sJn σ a ||| (1 <<< (nI b &&& 31)))) b ||| (1 <<< (nI a &&& 31)))) 0 := ⟨_, hQ, hWA.putJ ⟨hR9, hG9, hU9⟩ (by omega) _⟩
  have hw := hWA.1
  have kR9 : kR (uJ (uJ σ a (sJn σ a ||| (1 <<< (nI b &&& 31)))) b (sJn (uJ σ a (sJn σ a ||| (1 <<< (nI b &&& 31)))) b ||| (1 <<< (nI a &&& 31)))) = kR σ := rfl
  have kG9 : kG (uJ (uJ σ a (sJn σ a ||| (1 <<< (nI b &&& 31)))) b (sJn (uJ σ a (sJn σ a ||| (1 <<< (nI b &&& 31)))) b ||| (1 <<< (nI a &&& 31)))) = kG σ := rfl
  have kU9 : kU (uJ (uJ σ a (sJn σ a ||| (1 <<< (nI b &&& 31)))) b (sJn (uJ σ a (sJn σ a ||| (1 <<< (nI b &&& 31)))) b ||| (1 <<< (nI a &&& 31)))) = kU σ := rfl
  refine lv_aload_n hx hb dX4_door_109 rfl (lv_at hl 2 rfl) ?_
  refine lv_dup hx hb dX4_door_110 rfl ?_
  refine m_get hx hb hts in_X4_door_X4 hown hK hM (CW.x hw) rfl 4 (by decide) (by decide +kernel) rfl dX4_door_111 ?_
  refine lv_iconst (v := 1) hx hb dX4_door_114 (by decide) ?_
  refine lv_iadd hx hb dX4_door_115 ?_
  refine W.eq (g2 := F0 m 116 ls [.int ((nI (kD (uJ (uJ σ a (sJn σ a ||| (1 <<< (nI b &&& 31)))) b (sJn (uJ σ a (sJn σ a ||| (1 <<< (nI b &&& 31)))) b ||| (1 <<< (nI a &&& 31)))))) + 1), .ref (g 0)]) rfl ?_
  rw [show ((nI (kD (uJ (uJ σ a (sJn σ a ||| (1 <<< (nI b &&& 31)))) b (sJn (uJ σ a (sJn σ a ||| (1 <<< (nI b &&& 31)))) b ||| (1 <<< (nI a &&& 31)))))) + 1 : Int32) = nI (kD σ + 1) from nI_1 _]
  refine m_put hx hb hts in_X4_door_X4 tyX4 tyX4_ok nmX4 hown hK hM hS (CW.x hw) rfl 4 (by decide) (by decide +kernel) rfl (tyX4_ok 4 (by decide)) rfl rfl (Nat.le_of_ble_eq_true rfl) dX4_door_116 (fun H locs hM hz hS => ?_)
  obtain ⟨M, hM, hWA⟩ : ∃ M', mP E A g M' H ∧ WA E g M' (drS σ a b) 0 := ⟨_, hM, by rw [drS_eq hab]; exact hWA.putX ⟨hR9, hG9, hU9⟩⟩
  have hw := hWA.1
  have kR9 : kR (drS σ a b) = kR σ := rfl
  have kG9 : kG (drS σ a b) = kG σ := rfl
  have kU9 : kU (drS σ a b) = kU σ := rfl
  refine lv_aload_n hx hb dX4_door_119 rfl (lv_at hl 2 rfl) ?_
  refine m_wV 0 [] [] hx hb hml hown hts hK (c_planAll l E A g M (drS σ a b) hv2 hw hWA) gX4_door_X4_planAllWays rfl rfl rfl (by decide +kernel) rfl ⟨Nat.le_of_ble_eq_true rfl, Nat.le_of_ble_eq_true rfl⟩ hM (CW.x hw) rfl rfl hM hl.1 (Nat.le_of_ble_eq_true rfl) ⟨Nat.le_of_ble_eq_true rfl, Nat.le_of_ble_eq_true rfl⟩ rfl dX4_door_120 hS (fun _ _ h => h) (fun _ h => h) (fun H locs hQ hz hk hS => ?_)
  refine W.eq (g2 := F0 m 123 ls []) rfl ?_
  obtain ⟨M, hM, hw, hp, hd⟩ := hQ
  refine lv_aload_n hx hb dX4_door_123 rfl (lv_at hl 2 rfl) ?_
  refine m_get hx hb hts in_X4_door_X4 hown hK hM (CW.x hw) rfl 4 (by decide) (by decide +kernel) rfl dX4_door_124 ?_
  exact w_i hx hb hr hlocks dX4_door_127 hS (Nat.le_of_ble_eq_true rfl) (Nat.le_of_ble_eq_true rfl) (by first | rfl | assumption) (⟨_, hM, hw, hp, hd⟩)
