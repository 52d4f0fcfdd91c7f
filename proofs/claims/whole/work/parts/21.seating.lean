set_option maxHeartbeats 4000000 in
set_option maxRecDepth 100000 in
theorem c_newLength (l : Launch) (E : gE) (A : Nat → Prop) (g : Nat → Nat) (M : gM)  : Met l yJ8_newLength_cabcc wsJ8_newLength_cabcc ({ frames := 1, cells := 0, slots := 0, locals := 21 } : Room) (Pm E [.int 10, .int 1, .int 5] (fun _ => True)) (k2_QcV (.int 15)) 0 0 (fun _ => False) := by
  refine m_entry (by decide) rfl (Nat.le_of_ble_eq_true rfl) ?_
  intro p e s m args below meth c hx hb hr hml hts hown hlocks hin _ hK ls hl
  have hl : lv_has ls 4 [(0, .int 10), (1, .int 1), (2, .int 5)] := hl
  have hown : s.vm.findClass RJ8 = some m.cls := hown
  refine lv_iload_n hx hb dJ8_newLength_cabcc_0 rfl (lv_at hl 0 rfl) ?_
  refine lv_iload_n hx hb dJ8_newLength_cabcc_1 rfl (lv_at hl 1 rfl) ?_
  refine lv_iload_n hx hb dJ8_newLength_cabcc_2 rfl (lv_at hl 2 rfl) ?_
  refine va_mmax hx hb (hml.trans hl.1.symm) hown (hts (.methodLink RJ8 194 Lib.Math.max.name) (by decide +kernel)) (hts (.static Lib.Math.max.name) (by decide +kernel)) (hts (.initialized "java/lang/Math") (by decide +kernel)) (hts (.code Lib.Math.max.name Lib.Math.max.code 2 (some .int)) (by decide +kernel)) (Nat.le_of_ble_eq_true rfl) (Nat.le_of_ble_eq_true rfl) (Nat.zero_le _) (Nat.zero_le _) dJ8_newLength_cabcc_3 ?_
  refine W.eq (g2 := F0 m 6 ls [.int 5, .int 10]) (by rw [show (if (1 : Int32) < 5 then (5 : Int32) else 1) = 5 from by decide]) ?_
  refine lv_iadd hx hb dJ8_newLength_cabcc_6 ?_
  rw [show ((10 : Int32) + 5) = 15 from by decide]
  refine lv_istore_n (lv' := [(3, .int 15), (0, .int 10), (1, .int 1), (2, .int 5)]) hx hb dJ8_newLength_cabcc_7 rfl hl (by decide) rfl (fun ls hl => ?_)
  refine lv_iconst (v := 0) hx hb dJ8_newLength_cabcc_8 (by decide) ?_
  refine lv_iload_n hx hb dJ8_newLength_cabcc_9 rfl (lv_at hl 0 rfl) ?_
  refine lv_icmp_ge (tgt := 21) hx hb dJ8_newLength_cabcc_10 (by decide) (fun c9 => absurd c9 (by decide)) (fun c9 => ?_)
  refine lv_iload_n hx hb dJ8_newLength_cabcc_13 rfl (lv_at hl 0 rfl) ?_
  refine lv_ldc (v := 2147483639) hx hb hown (hts _ (by decide +kernel)) dJ8_newLength_cabcc_14 ?_
  refine lv_icmp_gt (tgt := 21) hx hb dJ8_newLength_cabcc_16 (by decide) (fun c9 => absurd c9 (by decide)) (fun c9 => ?_)
  refine lv_iload_n hx hb dJ8_newLength_cabcc_19 rfl (lv_at hl 0 rfl) ?_
  exact r_i hx hb hr hlocks dJ8_newLength_cabcc_20 (rfl)
set_option maxHeartbeats 4000000 in
set_option maxRecDepth 100000 in
theorem c_fill (l : Launch) (E : gE) (A : Nat → Prop) (g : Nat → Nat) (M : gM) (t n : Nat) (hn : n < 2 ^ 31) (f0 : Nat → Int32) (h0 : M t = some (.inl (E.2.1, n, .inl f0))) (x : Int32) : Met l yJ7_fill_53178 wsJ7_fill_53178 ({ frames := 0, cells := 0, slots := 0, locals := 0 } : Room) (Pm E [.ref (g t), .int x] (mP E A g M)) (QW none (fun H => ∃ f : Nat → Int32, mP E A g (mu M t (.inl (E.2.1, n, .inl f))) H ∧ ∀ j, j < n → f j = x) A) 0 0 A := by
  refine m_entry (by decide) rfl (Nat.le_of_ble_eq_true rfl) ?_
  intro p e s m args below meth c hx hb hr hml hts hown hlocks hin hM hK ls hl
  have hl : lv_has ls 4 [(0, .ref (g t)), (1, .int x)] := hl
  have hown : s.vm.findClass RJ7 = some m.cls := hown
  have hS : va_S A s.heap s.heap [] := va_S.rf
  skip
  refine lv_iconst (v := 0) hx hb dJ7_fill_53178_0 (by decide) ?_
  refine lv_istore_n (lv' := [(2, .int 0), (0, .ref (g t)), (1, .int x)]) hx hb dJ7_fill_53178_1 rfl hl (by decide) rfl (fun ls hl => ?_)
  refine lv_aload_n hx hb dJ7_fill_53178_2 rfl (lv_at hl 1 rfl) ?_
  refine m_alen (v := nI n) hx hb hK hM h0 rfl dJ7_fill_53178_3 ?_
  refine lv_istore_n (lv' := [(3, .int (nI n)), (2, .int 0), (0, .ref (g t)), (1, .int x)]) hx hb dJ7_fill_53178_4 rfl hl (by decide) rfl (fun ls hl => ?_)
  have lp5 : ∀ (n5 i : Nat), n5 + i = n → ∀ (H : Heap) (locs : List Loc) (f : Nat → Int32), (mP E A g (mu M t (.inl (E.2.1, n, .inl f))) H ∧ ∀ j, j < i → f j = x) → va_S A s.heap H locs → ∀ ls : Array Slot, lv_has ls 4 [(2, .int (nI i)), (3, .int (nI n)), (0, .ref (g t)), (1, .int x)] → W p l e ({ frames := 0, cells := 0, slots := 0, locals := 0 } : Room) s m args below meth c H locs 0 0 (MQ below (QW none (fun H => ∃ f : Nat → Int32, mP E A g (mu M t (.inl (E.2.1, n, .inl f))) H ∧ ∀ j, j < n → f j = x) A) args s 0 0 A) (F0 m 5 ls []) := by
    intro n5
    induction n5 with
    | zero =>
      intro i hi5 H locs f hI hS ls hl
      obtain ⟨hM, hf⟩ := hI
      obtain rfl : n = i := by omega
      refine lv_iload_n hx hb dJ7_fill_53178_5 rfl (lv_at hl 0 rfl) ?_
      refine lv_iload_n hx hb dJ7_fill_53178_6 rfl (lv_at hl 1 rfl) ?_
      refine lv_icmp_ge (tgt := 20) hx hb dJ7_fill_53178_7 (by decide) (fun c7 => ?_) (fun c9 => absurd (Int32.le_refl _) c9)
      exact w_v hx hb hr hlocks dJ7_fill_53178_20 hS (Nat.le_of_ble_eq_true rfl) (Nat.le_of_ble_eq_true rfl) (⟨f, hM, hf⟩)
    | succ n5 ih5 =>
      intro i hi5 H locs f hI hS ls hl
      obtain ⟨hM, hf⟩ := hI
      have hlt5 : i < n := by omega
      refine lv_iload_n hx hb dJ7_fill_53178_5 rfl (lv_at hl 0 rfl) ?_
      refine lv_iload_n hx hb dJ7_fill_53178_6 rfl (lv_at hl 1 rfl) ?_
      refine lv_icmp_ge (tgt := 20) hx hb dJ7_fill_53178_7 (by decide) (fun c9 => absurd c9 (nI_ge hlt5 (by omega))) (fun c7 => ?_)
      refine lv_aload_n hx hb dJ7_fill_53178_10 rfl (lv_at hl 2 rfl) ?_
      refine lv_iload_n hx hb dJ7_fill_53178_11 rfl (lv_at hl 0 rfl) ?_
      refine lv_iload_n hx hb dJ7_fill_53178_12 rfl (lv_at hl 3 rfl) ?_
      refine m_iast hx hb hK hM hS mu_s (ix_ok ⟨by omega, hn⟩) dJ7_fill_53178_13 (fun H locs hM hz hS => ?_)
      rw [mu_mu] at hM
      refine lv_iinc (v := nI (i + 1)) (lv' := [(2, .int (nI (i + 1))), (3, .int (nI n)), (0, .ref (g t)), (1, .int x)]) hx hb dJ7_fill_53178_14 hl (k := 0) rfl (m_inc _) (by decide) rfl (fun ls hl => ?_)
      refine lv_goto (tgt := 5) hx hb dJ7_fill_53178_17 (by decide) ?_
      exact ih5 (i + 1) (by omega) _ _ _ ⟨hM, fun j hj => by rw [nI_clamp (by omega)]; by_cases q : j = i; (subst q; exact pk_us); (rw [pk_un q]; exact hf j (by omega))⟩ hS ls (lv_sub hl [0, 1, 2, 3] rfl)
  exact lp5 (n) 0 (by omega) _ _ f0 ⟨by rw [mu_id h0]; exact hM, fun j hj => absurd hj (Nat.not_lt_zero j)⟩ hS ls (lv_sub hl [1, 0, 2, 3] rfl)
theorem in_X3_clear_X3 : ∀ w ∈ u_ws RX3 TX3 3, w ∈ wsX3_clear := by decide +kernel
set_option maxHeartbeats 4000000 in
set_option maxRecDepth 100000 in
theorem c_clear (l : Launch) (E : gE) (A : Nat → Prop) (g : Nat → Nat) (M : gM) (sa : Int32) (h4 : M 4 = some (.inr (4, [.ref (g 5), .ref (g 6), .int sa]))) (f5 f6 : Nat → Int32) (h5 : M 5 = some (.inl (E.2.1, 12, .inl f5))) (h6 : M 6 = some (.inl (E.2.1, 10, .inl f6))) : Met l yX3_clear wsX3_clear ({ frames := 1, cells := 0, slots := 0, locals := 23 } : Room) (Pm E [.ref (g 4)] (mP E A g M)) (QW none (fun H => ∃ e5 e6 : Nat → Int32, mP E A g (mu (mu M 5 (.inl (E.2.1, 12, .inl e5))) 6 (.inl (E.2.1, 10, .inl e6))) H ∧ (∀ j, j < 12 → e5 j = 0) ∧ ∀ j, j < 10 → e6 j = -1) A) 0 0 A := by
  refine m_entry (by decide) rfl (Nat.le_of_ble_eq_true rfl) ?_
  intro p e s m args below meth c hx hb hr hml hts hown hlocks hin hM hK ls hl
  have hl : lv_has ls 1 [(0, .ref (g 4))] := hl
  have hown : s.vm.findClass RX3 = some m.cls := hown
  have hS : va_S A s.heap s.heap [] := va_S.rf
  skip
  refine lv_aload_n hx hb dX3_clear_0 rfl (lv_at hl 0 rfl) ?_
  refine m_get hx hb hts in_X3_clear_X3 hown hK hM h4 rfl 0 (by decide) (by decide +kernel) rfl dX3_clear_1 ?_
  refine lv_iconst (v := 0) hx hb dX3_clear_4 (by decide) ?_
  refine m_wS 2 [.ref (g 5), .int 0] [] hx hb hml hown hts hK (c_fill l E A g M 5 12 (by decide) _ h5 0) gX3_clear_J7_fill_53178 rfl rfl rfl (by decide +kernel) rfl ⟨Nat.le_of_ble_eq_true rfl, Nat.le_of_ble_eq_true rfl⟩ hM hl.1 (Nat.le_of_ble_eq_true rfl) ⟨Nat.le_of_ble_eq_true rfl, Nat.le_of_ble_eq_true rfl⟩ rfl dX3_clear_5 hS (fun _ _ h => h) (fun _ h => h) (fun H locs hQ hz hk hS => ?_)
  refine W.eq (g2 := F0 m 8 ls []) rfl ?_
  obtain ⟨e5, hM, he5⟩ := hQ
  refine lv_aload_n hx hb dX3_clear_8 rfl (lv_at hl 0 rfl) ?_
  refine m_get hx hb hts in_X3_clear_X3 hown hK hM ((mu_n (u := 4) (t := 5) (by decide)).trans h4) rfl 1 (by decide) (by decide +kernel) rfl dX3_clear_9 ?_
  refine lv_iconst (v := (-1)) hx hb dX3_clear_12 (by decide) ?_
  refine m_wS 2 [.ref (g 6), .int (-1)] [] hx hb hml hown hts hK (c_fill l E A g (mu M 5 (.inl (E.2.1, 12, .inl e5))) 6 10 (by decide) _ ((mu_n (u := 6) (t := 5) (by decide)).trans h6) (-1)) gX3_clear_J7_fill_53178 rfl rfl rfl (by decide +kernel) rfl ⟨Nat.le_of_ble_eq_true rfl, Nat.le_of_ble_eq_true rfl⟩ hM hl.1 (Nat.le_of_ble_eq_true rfl) ⟨Nat.le_of_ble_eq_true rfl, Nat.le_of_ble_eq_true rfl⟩ rfl dX3_clear_13 hS (fun _ _ h => h) (fun _ h => h) (fun H locs hQ hz hk hS => ?_)
  refine W.eq (g2 := F0 m 16 ls []) rfl ?_
  obtain ⟨e6, hM, he6⟩ := hQ
  exact w_v hx hb hr hlocks dX3_clear_16 hS (Nat.le_of_ble_eq_true rfl) (Nat.le_of_ble_eq_true rfl) (⟨e5, e6, hM, he5, he6⟩)
theorem in_X3_allow_X3 : ∀ w ∈ u_ws RX3 TX3 3, w ∈ wsX3_allow := by decide +kernel
set_option maxHeartbeats 4000000 in
set_option maxRecDepth 100000 in
theorem c_allow (l : Launch) (E : gE) (A : Nat → Prop) (g : Nat → Nat) (M : gM) (sa : Int32) (h4 : M 4 = some (.inr (4, [.ref (g 5), .ref (g 6), .int sa]))) (f5 f6 : Nat → Int32) (h5 : M 5 = some (.inl (E.2.1, 12, .inl f5))) (h6 : M 6 = some (.inl (E.2.1, 10, .inl f6))) (u k : Nat) (hu : u < 12) : Met l yX3_allow wsX3_allow ({ frames := 0, cells := 0, slots := 0, locals := 0 } : Room) (Pm E [.ref (g 4), .int (nI u), .int (nI k)] (mP E A g M)) (QW none (mP E A g (mu M 5 (.inl (E.2.1, 12, .inl (upd f5 (nI u).toNatClampNeg (f5 u ||| (1 <<< (nI k &&& 31)))))))) A) 0 0 A := by
  refine m_entry (by decide) rfl (Nat.le_of_ble_eq_true rfl) ?_
  intro p e s m args below meth c hx hb hr hml hts hown hlocks hin hM hK ls hl
  have hl : lv_has ls 3 [(0, .ref (g 4)), (1, .int (nI u)), (2, .int (nI k))] := hl
  have hown : s.vm.findClass RX3 = some m.cls := hown
  have hS : va_S A s.heap s.heap [] := va_S.rf
  skip
  refine lv_iload_n hx hb dX3_allow_0 rfl (lv_at hl 1 rfl) ?_
  refine lv_if_lt (tgt := 25) hx hb dX3_allow_1 (by decide) (fun c9 => absurd c9 (nI_pos (by omega))) (fun c1 => ?_)
  refine lv_iload_n hx hb dX3_allow_4 rfl (lv_at hl 1 rfl) ?_
  refine lv_aload_n hx hb dX3_allow_5 rfl (lv_at hl 0 rfl) ?_
  refine m_get hx hb hts in_X3_allow_X3 hown hK hM h4 rfl 0 (by decide) (by decide +kernel) rfl dX3_allow_6 ?_
  refine m_alen (v := nI 12) hx hb hK hM h5 rfl dX3_allow_9 ?_
  refine lv_icmp_ge (tgt := 25) hx hb dX3_allow_10 (by decide) (fun c9 => absurd c9 (nI_ge hu (by decide))) (fun c10 => ?_)
  refine lv_aload_n hx hb dX3_allow_13 rfl (lv_at hl 0 rfl) ?_
  refine m_get hx hb hts in_X3_allow_X3 hown hK hM h4 rfl 0 (by decide) (by decide +kernel) rfl dX3_allow_14 ?_
  refine lv_iload_n hx hb dX3_allow_17 rfl (lv_at hl 1 rfl) ?_
  refine lv_dup2_11 hx hb dX3_allow_18 rfl rfl ?_
  refine m_iald (v := f5 u) hx hb hK hM h5 (ix_ok (by omega)) (rd_ok (by omega) rfl) dX3_allow_19 ?_
  refine lv_iconst (v := 1) hx hb dX3_allow_20 (by decide) ?_
  refine lv_iload_n hx hb dX3_allow_21 rfl (lv_at hl 2 rfl) ?_
  refine lv_ishl hx hb dX3_allow_22 ?_
  refine lv_ior hx hb dX3_allow_23 ?_
  refine m_iast hx hb hK hM hS h5 (ix_ok (by omega)) dX3_allow_24 (fun H locs hM hz hS => ?_)
  exact w_v hx hb hr hlocks dX3_allow_25 hS (Nat.le_of_ble_eq_true rfl) (Nat.le_of_ble_eq_true rfl) (hM)
