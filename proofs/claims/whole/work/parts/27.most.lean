def mgS (σ : Sg) : Nat → Int32 × Option Nat × (Nat → Int32)
  | 0 => (0, ndA σ (fun _ => true) (kU σ), fun _ => -1)
  | i + 1 => match (mgS σ i).2.1 with
    | none => mgS σ i
    | some u => (if (kF (alF σ) 11 u (0, (mgS σ i).2.2)).1 = true then (mgS σ i).1 + sGu σ u 4 else (mgS σ i).1, ndA σ (dearB σ u) (kU σ), (kF (alF σ) 11 u (0, (mgS σ i).2.2)).2.2)
theorem mg_s {σ : Sg} {i u : Nat} (h : (mgS σ i).2.1 = some u) : mgS σ (i + 1) = (if (kF (alF σ) 11 u (0, (mgS σ i).2.2)).1 = true then (mgS σ i).1 + sGu σ u 4 else (mgS σ i).1, ndA σ (dearB σ u) (kU σ), (kF (alF σ) 11 u (0, (mgS σ i).2.2)).2.2) := by
  rw [mgS, h]
theorem mg_lt (σ : Sg) : ∀ i u, (mgS σ i).2.1 = some u → u < kU σ
  | 0, u, h => ndA_lt σ _ _ u h
  | i + 1, u, h => by
    cases e : (mgS σ i).2.1 with
    | none => rw [mgS, e] at h; exact mg_lt σ i u h
    | some v => rw [mg_s e] at h; exact ndA_lt σ _ _ u h
theorem mg_HO {σ : Sg} (hU : kU σ ≤ 12) : ∀ i, HO (mgS σ i).2.2
  | 0 => fun _ _ => Or.inl rfl
  | i + 1 => by
    cases e : (mgS σ i).2.1 with
    | none => rw [mgS, e]; exact mg_HO hU i
    | some v =>
      have := mg_lt σ i v e
      rw [mg_s e]
      exact kF_ok (alF σ) 11 v (0, (mgS σ i).2.2) (by omega) (mg_HO hU i)
theorem mg_none {σ : Sg} {i : Nat} (h : (mgS σ i).2.1 = none) : ∀ k, mgS σ (i + k) = mgS σ i
  | 0 => rfl
  | k + 1 => by
    have ih := mg_none h k
    rw [← Nat.add_assoc, mgS, ih, h]
theorem mg_gu {σ : Sg} {i : Nat} (hU : kU σ ≤ 12) {y : Int32} (e : y = oI (mgS σ i).2.1) (h : 0 ≤ y ∧ y < nI (kU σ)) : ∃ u, u < kU σ ∧ (mgS σ i).2.1 = some u ∧ y = nI u := by
  cases q : (mgS σ i).2.1 with
  | none => rw [q] at e; rw [e] at h; exact absurd h.1 (by decide)
  | some u => exact ⟨u, mg_lt σ i u q, rfl, by rw [e, q]; rfl⟩
theorem mg_end {σ : Sg} {i : Nat} (hi : i ≤ kU σ) (hU : kU σ ≤ 12) {y : Int32} (e : y = oI (mgS σ i).2.1) (h : ¬ (0 ≤ y ∧ y < nI (kU σ))) : (mgS σ (kU σ)).1 = (mgS σ i).1 := by
  cases q : (mgS σ i).2.1 with
  | none => rw [show kU σ = i + (kU σ - i) by omega, mg_none q]
  | some u =>
    have h1 := mg_lt σ i u q
    rw [q] at e
    exact absurd ⟨by rw [e]; exact nI_pos' (by omega), by rw [e]; exact nI_lt h1 (by omega)⟩ h
/-- the class's world with the seats al allowed and the holders ho -/
def SX (E : gE) (g : Nat → Nat) (σ : Sg) (al : Nat → Int32) (M : gM) (ho : Nat → Int32) : Prop := CW E g M σ ∧ PW E M σ ∧ CD M σ ∧ M 5 = some (.inl (E.2.1, 12, .inl al)) ∧ M 6 = some (.inl (E.2.1, 10, .inl ho))
section
variable {E : gE} {g : Nat → Nat} {M : gM} {σ : Sg}
theorem CW.mu6 {f : Nat → Int32} (hw : CW E g M σ) : CW E g (mu M 6 (.inl (E.2.1, 10, .inl f))) σ := by
  obtain ⟨⟨a1, a2, a3, a4⟩, ⟨b1, b2, b3⟩, c1, c2, c3⟩ := hw
  refine ⟨⟨?_, a2.mu (by omega) (by omega), a3.mu (by omega) (by omega), a4.mu (by omega) (by omega)⟩, ⟨?_, ?_, ⟨f, mu_s⟩⟩, fun i hi => ?_, fun i hi => ?_, fun i hi => ?_⟩
  · rw [mu_n (by omega)]; exact a1
  · rw [mu_n (by omega)]; exact b1
  · rw [mu_n (by omega)]; exact b2
  · rw [mu_n (by omega)]; exact c1 i hi
  · rw [mu_n (by omega)]; exact c2 i hi
  · rw [mu_n (by omega)]; exact c3 i hi
theorem CW.mu4 {x : Int32} (hw : CW E g M σ) : CW E g (mu M 4 (.inr (4, [.ref (g 5), .ref (g 6), .int x]))) σ := by
  obtain ⟨⟨a1, a2, a3, a4⟩, ⟨b1, b2, b3⟩, c1, c2, c3⟩ := hw
  refine ⟨⟨?_, a2.mu (by omega) (by omega), a3.mu (by omega) (by omega), a4.mu (by omega) (by omega)⟩, ⟨⟨x, mu_s⟩, ?_, ?_⟩, fun i hi => ?_, fun i hi => ?_, fun i hi => ?_⟩
  · rw [mu_n (by omega)]; exact a1
  · rw [mu_n (by omega)]; exact b2
  · rw [mu_n (by omega)]; exact b3
  · rw [mu_n (by omega)]; exact c1 i hi
  · rw [mu_n (by omega)]; exact c2 i hi
  · rw [mu_n (by omega)]; exact c3 i hi
theorem SX.seat {al ho : Nat → Int32} (h : SX E g σ al M ho) (hb : kG σ ≤ 5) (t : gK) : SX E g σ al (mS4 E g M t) t.2 := by
  obtain ⟨hw, hp, hd, h5, h6⟩ := h
  obtain ⟨as, h4⟩ := hw.2.1.1
  exact ⟨hw.mu4.mu6, (hp.mu (Or.inl (by omega)) hb rfl rfl rfl).mu (Or.inl (by omega)) hb rfl rfl rfl, (hd.mu h4).mu ((mu_n (by decide)).trans h6), h5, mS4_6⟩
theorem SX.clear (hw : CW E g M σ) (hp : PW E M σ) (hd : CD M σ) (hb : kG σ ≤ 5) {f5 f6 : Nat → Int32} (h5 : M 5 = some (.inl (E.2.1, 12, .inl f5))) (h6 : M 6 = some (.inl (E.2.1, 10, .inl f6))) {al ho : Nat → Int32} : SX E g σ al (mu (mu M 5 (.inl (E.2.1, 12, .inl al))) 6 (.inl (E.2.1, 10, .inl ho))) ho :=
  ⟨hw.mu5.mu6, (hp.mu (Or.inl (by omega)) hb rfl rfl rfl).mu (Or.inl (by omega)) hb rfl rfl rfl, (hd.mu h5).mu ((mu_n (by decide)).trans h6), (mu_n (by decide)).trans mu_s, mu_s⟩
end
theorem in_X4_most_X1 : ∀ w ∈ u_ws RX1 TX1 7, w ∈ wsX4_most := by decide +kernel
theorem in_X4_most_X4 : ∀ w ∈ u_ws RX4 TX4 8, w ∈ wsX4_most := by decide +kernel
set_option maxHeartbeats 4000000 in
set_option maxRecDepth 100000 in
theorem c_most (l : Launch) (E : gE) (A : Nat → Prop) (g : Nat → Nat) (M : gM) (σ : Sg) (hv : VS σ) (hw : CW E g M σ) (hp : PW E M σ) (hd : CD M σ) : Met l yX4_most wsX4_most ({ frames := 13, cells := 0, slots := 0, locals := 321 } : Room) (Pm E [.ref (g 0)] (mP E A g M)) (QW (some (.int ((mgS σ (kU σ)).1))) (fun H => ∃ M', mP E A g M' H ∧ CX E g M' σ) A) 0 0 A := by
  refine m_entry (by decide) rfl (Nat.le_of_ble_eq_true rfl) ?_
  intro p e s m args below meth c hx hb hr hml hts hown hlocks hin hM hK ls hl
  have hl : lv_has ls 4 [(0, .ref (g 0))] := hl
  have hown : s.vm.findClass RX4 = some m.cls := hown
  have hS : va_S A s.heap s.heap [] := va_S.rf
  skip
  obtain ⟨⟨hR9, hG9, hU9, hD9⟩, -⟩ := id hv
  obtain ⟨mc1, el1, h1, -⟩ := CW.LR hw
  obtain ⟨mc2, el2, h2, -⟩ := CW.LG hw
  obtain ⟨mc3, el3, h3, -⟩ := CW.LU hw
  refine lv_aload_n hx hb dX4_most_0 rfl (lv_at hl 0 rfl) ?_
  refine m_get hx hb hts in_X4_most_X4 hown hK hM (CW.x hw) rfl 3 (by decide) (by decide +kernel) rfl dX4_most_1 ?_
  obtain ⟨⟨as9, h49⟩, ⟨f59, h59⟩, ⟨f69, h69⟩⟩ := hw.2.1
  refine m_wV 0 [] [] hx hb hml hown hts hK (c_clearF l E A g M as9 h49 f59 f69 h59 h69) gX4_most_X3_clear rfl rfl rfl (by decide +kernel) rfl ⟨Nat.le_of_ble_eq_true rfl, Nat.le_of_ble_eq_true rfl⟩ hM h49 rfl rfl hM hl.1 (Nat.le_of_ble_eq_true rfl) ⟨Nat.le_of_ble_eq_true rfl, Nat.le_of_ble_eq_true rfl⟩ rfl dX4_most_4 hS (fun _ _ h => h) (fun _ h => h) (fun H locs hQ hz hk hS => ?_)
  refine W.eq (g2 := F0 m 7 ls []) rfl ?_
  obtain ⟨M, hM, hSX⟩ : ∃ M', mP E A g M' H ∧ SX E g σ (fun _ => 0) M' (fun _ => -1) := ⟨_, hQ, SX.clear hw hp hd hG9 h59 h69⟩
  obtain ⟨hw, hp, hd, h5, h6⟩ := id hSX
  obtain ⟨as9, h49⟩ := hw.2.1.1
  obtain ⟨mc1, el1, h1, -⟩ := CW.LR hw
  obtain ⟨mc2, el2, h2, -⟩ := CW.LG hw
  obtain ⟨mc3, el3, h3, -⟩ := CW.LU hw
  refine lv_aload_n hx hb dX4_most_7 rfl (lv_at hl 0 rfl) ?_
  refine m_wV 0 [] [] hx hb hml hown hts hK (c_allowF l E A g M σ hv hw hp M rfl hd (fun _ => 0) h5 (fun _ _ => rfl)) gX4_most_X4_allowSeats rfl rfl rfl (by decide +kernel) rfl ⟨Nat.le_of_ble_eq_true rfl, Nat.le_of_ble_eq_true rfl⟩ hM (CW.x hw) rfl rfl hM hl.1 (Nat.le_of_ble_eq_true rfl) ⟨Nat.le_of_ble_eq_true rfl, Nat.le_of_ble_eq_true rfl⟩ rfl dX4_most_8 hS (fun _ _ h => h) (fun _ h => h) (fun H locs hQ hz hk hS => ?_)
  refine W.eq (g2 := F0 m 11 ls []) rfl ?_
  obtain ⟨M, hM, hSX⟩ : ∃ M', mP E A g M' H ∧ SX E g σ (alF σ) M' (fun _ => -1) := by obtain ⟨M1, q1, q2, q3, q4, q5, q6⟩ := hQ; exact ⟨M1, q1, q2, q3, q4, q5, (q6 6 (by decide)).trans h6⟩
  obtain ⟨hw, hp, hd, h5, h6⟩ := id hSX
  obtain ⟨as9, h49⟩ := hw.2.1.1
  obtain ⟨mc1, el1, h1, -⟩ := CW.LR hw
  obtain ⟨mc2, el2, h2, -⟩ := CW.LG hw
  obtain ⟨mc3, el3, h3, -⟩ := CW.LU hw
  refine lv_iconst (v := 0) hx hb dX4_most_11 (by decide) ?_
  refine lv_istore_n (lv' := [(1, .int 0), (0, .ref (g 0))]) hx hb dX4_most_12 rfl hl (by decide) rfl (fun ls hl => ?_)
  refine lv_aload_n hx hb dX4_most_13 rfl (lv_at hl 1 rfl) ?_
  refine lv_iconst (v := (-1)) hx hb dX4_most_14 (by decide) ?_
  refine m_cV 1 [.int (-1)] [] hx hb hml hown hts hK (c_nextD0 l E A g M σ hv hw hp) gX4_most_X4_nextDearest rfl rfl rfl (by decide +kernel) rfl ⟨Nat.le_of_ble_eq_true rfl, Nat.le_of_ble_eq_true rfl⟩ hM (CW.x hw) rfl rfl hM hl.1 (Nat.le_of_ble_eq_true rfl) ⟨Nat.le_of_ble_eq_true rfl, Nat.le_of_ble_eq_true rfl⟩ rfl dX4_most_15 ?_
  refine lv_istore_n (lv' := [(2, .int (oI (ndA σ (fun _ => true) (kU σ)))), (1, .int 0), (0, .ref (g 0))]) hx hb dX4_most_18 rfl hl (by decide) rfl (fun ls hl => ?_)
  refine lv_iconst (v := 0) hx hb dX4_most_19 (by decide) ?_
  refine lv_istore_n (lv' := [(3, .int 0), (2, .int (oI (ndA σ (fun _ => true) (kU σ)))), (1, .int 0), (0, .ref (g 0))]) hx hb dX4_most_20 rfl hl (by decide) rfl (fun ls hl => ?_)
  have lp21 : ∀ (n21 i : Nat), n21 + i = kU σ → ∀ (H : Heap) (locs : List Loc) (M : gM), (mP E A g M H ∧ SX E g σ (alF σ) M (mgS σ i).2.2) → va_S A s.heap H locs → ∀ x1 : Int32, x1 = (mgS σ i).1 → ∀ y2 : Int32, y2 = oI (mgS σ i).2.1 → ∀ ls : Array Slot, lv_has ls 4 [(3, .int (nI i)), (1, .int x1), (2, .int y2), (0, .ref (g 0))] → W p l e ({ frames := 13, cells := 0, slots := 0, locals := 321 } : Room) s m args below meth c H locs 0 0 (MQ below (QW (some (.int ((mgS σ (kU σ)).1))) (fun H => ∃ M', mP E A g M' H ∧ CX E g M' σ) A) args s 0 0 A) (F0 m 21 ls []) := by
    intro n21
    induction n21 with
    | zero =>
      intro i hi21 H locs M hI hS x1 ex1 y2 ey2 ls hl
      obtain ⟨hM, hSX⟩ := hI
      obtain ⟨hw, hp, hd, h5, h6⟩ := id hSX
      obtain ⟨as9, h49⟩ := hw.2.1.1
      obtain ⟨mc1, el1, h1, -⟩ := CW.LR hw
      obtain ⟨mc2, el2, h2, -⟩ := CW.LG hw
      obtain ⟨mc3, el3, h3, -⟩ := CW.LU hw
      obtain rfl : kU σ = i := by omega
      refine lv_iload_n hx hb dX4_most_21 rfl (lv_at hl 0 rfl) ?_
      refine lv_aload_n hx hb dX4_most_22 rfl (lv_at hl 3 rfl) ?_
      refine m_get hx hb hts in_X4_most_X4 hown hK hM (CW.x hw) rfl 2 (by decide) (by decide +kernel) rfl dX4_most_23 ?_
      refine m_cV 0 [] [.int (nI (kU σ))] hx hb hml hown hts hK (c_size l E A g M (CW.LU hw)) gX4_most_Jx4a65c_size_8abf5 rfl rfl rfl (by decide +kernel) rfl ⟨Nat.le_of_ble_eq_true rfl, Nat.le_of_ble_eq_true rfl⟩ hM h3 rfl rfl hM hl.1 (Nat.le_of_ble_eq_true rfl) ⟨Nat.le_of_ble_eq_true rfl, Nat.le_of_ble_eq_true rfl⟩ rfl dX4_most_26 ?_
      refine lv_icmp_ge (tgt := 80) hx hb dX4_most_29 (by decide) (fun c29 => ?_) (fun c9 => absurd (Int32.le_refl _) c9)
      refine lv_iload_n hx hb dX4_most_80 rfl (lv_at hl 1 rfl) ?_
      exact w_i hx hb hr hlocks dX4_most_81 hS (Nat.le_of_ble_eq_true rfl) (Nat.le_of_ble_eq_true rfl) (ex1) (⟨_, hM, hw, hp, hd⟩)
    | succ n21 ih21 =>
      intro i hi21 H locs M hI hS x1 ex1 y2 ey2 ls hl
      obtain ⟨hM, hSX⟩ := hI
      obtain ⟨hw, hp, hd, h5, h6⟩ := id hSX
      obtain ⟨as9, h49⟩ := hw.2.1.1
      obtain ⟨mc1, el1, h1, -⟩ := CW.LR hw
      obtain ⟨mc2, el2, h2, -⟩ := CW.LG hw
      obtain ⟨mc3, el3, h3, -⟩ := CW.LU hw
      have hlt21 : i < kU σ := by omega
      refine lv_iload_n hx hb dX4_most_21 rfl (lv_at hl 0 rfl) ?_
      refine lv_aload_n hx hb dX4_most_22 rfl (lv_at hl 3 rfl) ?_
      refine m_get hx hb hts in_X4_most_X4 hown hK hM (CW.x hw) rfl 2 (by decide) (by decide +kernel) rfl dX4_most_23 ?_
      refine m_cV 0 [] [.int (nI i)] hx hb hml hown hts hK (c_size l E A g M (CW.LU hw)) gX4_most_Jx4a65c_size_8abf5 rfl rfl rfl (by decide +kernel) rfl ⟨Nat.le_of_ble_eq_true rfl, Nat.le_of_ble_eq_true rfl⟩ hM h3 rfl rfl hM hl.1 (Nat.le_of_ble_eq_true rfl) ⟨Nat.le_of_ble_eq_true rfl, Nat.le_of_ble_eq_true rfl⟩ rfl dX4_most_26 ?_
      refine lv_icmp_ge (tgt := 80) hx hb dX4_most_29 (by decide) (fun c9 => absurd c9 (nI_ge hlt21 (by omega))) (fun c29 => ?_)
      refine lv_aload_n hx hb dX4_most_32 rfl (lv_at hl 3 rfl) ?_
      refine lv_iload_n hx hb dX4_most_33 rfl (lv_at hl 2 rfl) ?_
      refine m_cV 1 [.int y2] [] hx hb hml hown hts hK (c_isGuest l E A g M σ hv hw y2) gX4_most_X4_isGuest rfl rfl rfl (by decide +kernel) rfl ⟨Nat.le_of_ble_eq_true rfl, Nat.le_of_ble_eq_true rfl⟩ hM (CW.x hw) rfl rfl hM hl.1 (Nat.le_of_ble_eq_true rfl) ⟨Nat.le_of_ble_eq_true rfl, Nat.le_of_ble_eq_true rfl⟩ rfl dX4_most_34 ?_
      refine lv_if_eq (tgt := 80) hx hb dX4_most_37 (by decide) (fun c37 => ?_) (fun c37 => ?_)
      · have c37 := of_decide_eq_false (bI_f c37)
        refine lv_iload_n hx hb dX4_most_80 rfl (lv_at hl 1 rfl) ?_
        exact w_i hx hb hr hlocks dX4_most_81 hS (Nat.le_of_ble_eq_true rfl) (Nat.le_of_ble_eq_true rfl) (by rw [mg_end (by omega) hU9 ey2 c37, ex1]) (⟨_, hM, hw, hp, hd⟩)
      · have c37 := of_decide_eq_true (bI_t c37)
        obtain ⟨u9, hu9, hs9, hy9⟩ := mg_gu hU9 ey2 c37
        rw [hy9] at hl
        refine lv_aload_n hx hb dX4_most_40 rfl (lv_at hl 3 rfl) ?_
        refine m_get hx hb hts in_X4_most_X4 hown hK hM (CW.x hw) rfl 3 (by decide) (by decide +kernel) rfl dX4_most_41 ?_
        refine lv_iload_n hx hb dX4_most_44 rfl (lv_at hl 2 rfl) ?_
        refine m_wV 1 [.int (nI u9)] [] hx hb hml hown hts hK (c_seat l E A g M (alF σ) as9 (mgS σ i).2.2 h49 h5 h6 (mg_HO hU9 i) u9 (by omega)) gX4_most_X3_seat rfl rfl rfl (by decide +kernel) rfl ⟨Nat.le_of_ble_eq_true rfl, Nat.le_of_ble_eq_true rfl⟩ hM h49 rfl rfl hM hl.1 (Nat.le_of_ble_eq_true rfl) ⟨Nat.le_of_ble_eq_true rfl, Nat.le_of_ble_eq_true rfl⟩ rfl dX4_most_45 hS (fun _ _ h => h) (fun _ h => h) (fun H locs hQ hz hk hS => ?_)
        refine W.eq (g2 := F0 m 48 ls [.int (bI (kF (alF σ) 11 u9 (0, (mgS σ i).2.2)).1)]) rfl ?_
        obtain ⟨M, hM, hSX⟩ : ∃ M', mP E A g M' H ∧ SX E g σ (alF σ) M' (kF (alF σ) 11 u9 (0, (mgS σ i).2.2)).2.2 := ⟨_, hQ, hSX.seat hG9 _⟩
        obtain ⟨hw, hp, hd, h5, h6⟩ := id hSX
        obtain ⟨as9, h49⟩ := hw.2.1.1
        obtain ⟨mc1, el1, h1, -⟩ := CW.LR hw
        obtain ⟨mc2, el2, h2, -⟩ := CW.LG hw
        obtain ⟨mc3, el3, h3, -⟩ := CW.LU hw
        refine lv_if_eq (tgt := 68) hx hb dX4_most_48 (by decide) (fun c48 => ?_) (fun c48 => ?_)
        · have c48 := bI_f c48
          refine lv_aload_n hx hb dX4_most_68 rfl (lv_at hl 3 rfl) ?_
          refine lv_iload_n hx hb dX4_most_69 rfl (lv_at hl 2 rfl) ?_
          refine m_cV 1 [.int (nI u9)] [] hx hb hml hown hts hK (c_nextD l E A g M σ hv hw hp u9 (by omega)) gX4_most_X4_nextDearest rfl rfl rfl (by decide +kernel) rfl ⟨Nat.le_of_ble_eq_true rfl, Nat.le_of_ble_eq_true rfl⟩ hM (CW.x hw) rfl rfl hM hl.1 (Nat.le_of_ble_eq_true rfl) ⟨Nat.le_of_ble_eq_true rfl, Nat.le_of_ble_eq_true rfl⟩ rfl dX4_most_70 ?_
          refine lv_istore_n (lv' := [(2, .int (oI (ndA σ (dearB σ u9) (kU σ)))), (3, .int (nI i)), (1, .int x1), (0, .ref (g 0))]) hx hb dX4_most_73 rfl hl (by decide) rfl (fun ls hl => ?_)
          refine lv_iinc (v := nI (i + 1)) (lv' := [(3, .int (nI (i + 1))), (2, .int (oI (ndA σ (dearB σ u9) (kU σ)))), (1, .int x1), (0, .ref (g 0))]) hx hb dX4_most_74 hl (k := 1) rfl (m_inc _) (by decide) rfl (fun ls hl => ?_)
          refine lv_goto (tgt := 21) hx hb dX4_most_77 (by decide) ?_
          exact ih21 (i + 1) (by omega) _ _ _ ⟨hM, by rw [mg_s hs9]; exact hSX⟩ hS _ (by rw [mg_s hs9, ex1]; exact (if_neg (by rw [c48]; decide)).symm) _ (by rw [mg_s hs9]) ls (lv_sub hl [0, 2, 1, 3] rfl)
        · have c48 := bI_t c48
          refine lv_iload_n hx hb dX4_most_51 rfl (lv_at hl 1 rfl) ?_
          refine lv_aload_n hx hb dX4_most_52 rfl (lv_at hl 3 rfl) ?_
          refine m_get hx hb hts in_X4_most_X4 hown hK hM (CW.x hw) rfl 2 (by decide) (by decide +kernel) rfl dX4_most_53 ?_
          refine lv_iload_n hx hb dX4_most_56 rfl (lv_at hl 2 rfl) ?_
          refine m_cV 1 [.int (nI u9)] [.int x1] hx hb hml hown hts hK (c_get l E A g M (CW.LU hw) (by omega) u9 (by omega)) gX4_most_Jx4a65c_get_915e3 rfl rfl rfl (by decide +kernel) rfl ⟨Nat.le_of_ble_eq_true rfl, Nat.le_of_ble_eq_true rfl⟩ hM h3 rfl rfl hM hl.1 (Nat.le_of_ble_eq_true rfl) ⟨Nat.le_of_ble_eq_true rfl, Nat.le_of_ble_eq_true rfl⟩ rfl dX4_most_57 ?_
          refine m_cast (ci := 2) hx hb hts hown (by decide +kernel) hK hM (CW.guest hw (i := u9) (by omega)) rfl dX4_most_60 ?_
          refine m_get hx hb hts in_X4_most_X1 hown hK hM (CW.guest hw (i := u9) (by omega)) rfl 4 (by decide) (by decide +kernel) rfl dX4_most_63 ?_
          refine lv_iadd hx hb dX4_most_66 ?_
          refine lv_istore_n (lv' := [(1, .int (x1 + (sGu σ u9 4))), (3, .int (nI i)), (2, .int (nI u9)), (0, .ref (g 0))]) hx hb dX4_most_67 rfl hl (by decide) rfl (fun ls hl => ?_)
          refine lv_aload_n hx hb dX4_most_68 rfl (lv_at hl 3 rfl) ?_
          refine lv_iload_n hx hb dX4_most_69 rfl (lv_at hl 2 rfl) ?_
          refine m_cV 1 [.int (nI u9)] [] hx hb hml hown hts hK (c_nextD l E A g M σ hv hw hp u9 (by omega)) gX4_most_X4_nextDearest rfl rfl rfl (by decide +kernel) rfl ⟨Nat.le_of_ble_eq_true rfl, Nat.le_of_ble_eq_true rfl⟩ hM (CW.x hw) rfl rfl hM hl.1 (Nat.le_of_ble_eq_true rfl) ⟨Nat.le_of_ble_eq_true rfl, Nat.le_of_ble_eq_true rfl⟩ rfl dX4_most_70 ?_
          refine lv_istore_n (lv' := [(2, .int (oI (ndA σ (dearB σ u9) (kU σ)))), (1, .int (x1 + (sGu σ u9 4))), (3, .int (nI i)), (0, .ref (g 0))]) hx hb dX4_most_73 rfl hl (by decide) rfl (fun ls hl => ?_)
          refine lv_iinc (v := nI (i + 1)) (lv' := [(3, .int (nI (i + 1))), (2, .int (oI (ndA σ (dearB σ u9) (kU σ)))), (1, .int (x1 + (sGu σ u9 4))), (0, .ref (g 0))]) hx hb dX4_most_74 hl (k := 2) rfl (m_inc _) (by decide) rfl (fun ls hl => ?_)
          refine lv_goto (tgt := 21) hx hb dX4_most_77 (by decide) ?_
          exact ih21 (i + 1) (by omega) _ _ _ ⟨hM, by rw [mg_s hs9]; exact hSX⟩ hS _ (by rw [mg_s hs9, ex1]; exact (if_pos c48).symm) _ (by rw [mg_s hs9]) ls (lv_sub hl [0, 2, 1, 3] rfl)
  exact lp21 (kU σ) 0 (by omega) _ _ _ ⟨hM, hSX⟩ hS _ (rfl) _ (rfl) ls (lv_sub hl [0, 2, 1, 3] rfl)
