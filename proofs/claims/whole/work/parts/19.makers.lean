theorem in_X1_init_X1 : ∀ w ∈ u_ws RX1 TX1 7, w ∈ wsX1_init := by decide +kernel
set_option maxHeartbeats 4000000 in
set_option maxRecDepth 100000 in
theorem c_guestInit (l : Launch) (E : gE) (A : Nat → Prop) (g : Nat → Nat) (M : gM) (tu : Nat) (xc xn xv : Int32) (h : M tu = some (.inr (2, [.int 0, .int 0, .int 0, .int 0, .int 0, .int 0, .int 0]))) : Met l yX1_init wsX1_init ({ frames := 1, cells := 0, slots := 0, locals := 20 } : Room) (Pm E [.ref (g tu), .int xc, .int xn, .int xv] (mP E A g M)) (QW none (mP E A g (mu M tu (.inr (2, [.int xn, .int xc, .int xv, .int (-1), .int 0, .int 0, .int 0])))) A) 0 0 A := by
  refine m_entry (by decide) rfl (Nat.le_of_ble_eq_true rfl) ?_
  intro p e s m args below meth c hx hb hr hml hts hown hlocks hin hM hK ls hl
  have hl : lv_has ls 4 [(0, .ref (g tu)), (1, .int xc), (2, .int xn), (3, .int xv)] := hl
  have hown : s.vm.findClass RX1 = some m.cls := hown
  have hS : va_S A s.heap s.heap [] := va_S.rf
  skip
  refine lv_aload_n hx hb dX1_init_0 rfl (lv_at hl 0 rfl) ?_
  refine W.objInit hx hb hown (hts (.methodLink RX1 3 objectInit) (by decide +kernel)) (hts (.instanceMethod objectInit) (by decide +kernel)) (hts (.code objectInit ⟨#[0xb1]⟩ 1 none) (by decide +kernel)) rfl (by rw [hml]; exact hl.1) rfl dX1_init_1 (Nat.le_of_ble_eq_true rfl) (Nat.le_of_ble_eq_true rfl) ?_
  refine W.eq (g2 := F0 m 4 ls []) rfl ?_
  refine lv_aload_n hx hb dX1_init_4 rfl (lv_at hl 0 rfl) ?_
  refine lv_iconst (v := (-1)) hx hb dX1_init_5 (by decide) ?_
  refine m_put hx hb hts in_X1_init_X1 tyX1 tyX1_ok nmX1 hown hK hM hS h rfl 3 (by decide) (by decide +kernel) rfl (tyX1_ok 3 (by decide)) rfl rfl (Nat.le_of_ble_eq_true rfl) dX1_init_6 (fun H locs hM hz hS => ?_)
  have hm_1 : (mu M tu (.inr (2, [.int 0, .int 0, .int 0, .int (-1), .int 0, .int 0, .int 0]))) tu = some (.inr (2, [.int 0, .int 0, .int 0, .int (-1), .int 0, .int 0, .int 0])) := mu_s
  have hM : mP E A g (mu M tu (.inr (2, [.int 0, .int 0, .int 0, .int (-1), .int 0, .int 0, .int 0]))) H := hM
  refine lv_aload_n hx hb dX1_init_9 rfl (lv_at hl 0 rfl) ?_
  refine lv_iload_n hx hb dX1_init_10 rfl (lv_at hl 1 rfl) ?_
  refine m_put hx hb hts in_X1_init_X1 tyX1 tyX1_ok nmX1 hown hK hM hS hm_1 rfl 1 (by decide) (by decide +kernel) rfl (tyX1_ok 1 (by decide)) rfl rfl (Nat.le_of_ble_eq_true rfl) dX1_init_11 (fun H locs hM hz hS => ?_)
  have hm_2 : (mu (mu M tu (.inr (2, [.int 0, .int 0, .int 0, .int (-1), .int 0, .int 0, .int 0]))) tu (.inr (2, [.int 0, .int xc, .int 0, .int (-1), .int 0, .int 0, .int 0]))) tu = some (.inr (2, [.int 0, .int xc, .int 0, .int (-1), .int 0, .int 0, .int 0])) := mu_s
  have hM : mP E A g (mu (mu M tu (.inr (2, [.int 0, .int 0, .int 0, .int (-1), .int 0, .int 0, .int 0]))) tu (.inr (2, [.int 0, .int xc, .int 0, .int (-1), .int 0, .int 0, .int 0]))) H := hM
  refine lv_aload_n hx hb dX1_init_14 rfl (lv_at hl 0 rfl) ?_
  refine lv_iload_n hx hb dX1_init_15 rfl (lv_at hl 2 rfl) ?_
  refine m_putF hx hb hts in_X1_init_X1 tyX1 tyX1_ok nmX1 hown hK hM hS hm_2 rfl 0 (by decide) (by decide +kernel) rfl hin rfl (tyX1_ok 0 (by decide)) rfl rfl (Nat.le_of_ble_eq_true rfl) dX1_init_16 (fun H locs hM hz hS => ?_)
  have hm_3 : (mu (mu (mu M tu (.inr (2, [.int 0, .int 0, .int 0, .int (-1), .int 0, .int 0, .int 0]))) tu (.inr (2, [.int 0, .int xc, .int 0, .int (-1), .int 0, .int 0, .int 0]))) tu (.inr (2, [.int xn, .int xc, .int 0, .int (-1), .int 0, .int 0, .int 0]))) tu = some (.inr (2, [.int xn, .int xc, .int 0, .int (-1), .int 0, .int 0, .int 0])) := mu_s
  have hM : mP E A g (mu (mu (mu M tu (.inr (2, [.int 0, .int 0, .int 0, .int (-1), .int 0, .int 0, .int 0]))) tu (.inr (2, [.int 0, .int xc, .int 0, .int (-1), .int 0, .int 0, .int 0]))) tu (.inr (2, [.int xn, .int xc, .int 0, .int (-1), .int 0, .int 0, .int 0]))) H := hM
  refine lv_aload_n hx hb dX1_init_19 rfl (lv_at hl 0 rfl) ?_
  refine lv_iload_n hx hb dX1_init_20 rfl (lv_at hl 3 rfl) ?_
  refine m_put hx hb hts in_X1_init_X1 tyX1 tyX1_ok nmX1 hown hK hM hS hm_3 rfl 2 (by decide) (by decide +kernel) rfl (tyX1_ok 2 (by decide)) rfl rfl (Nat.le_of_ble_eq_true rfl) dX1_init_21 (fun H locs hM hz hS => ?_)
  have hm_4 : (mu (mu (mu (mu M tu (.inr (2, [.int 0, .int 0, .int 0, .int (-1), .int 0, .int 0, .int 0]))) tu (.inr (2, [.int 0, .int xc, .int 0, .int (-1), .int 0, .int 0, .int 0]))) tu (.inr (2, [.int xn, .int xc, .int 0, .int (-1), .int 0, .int 0, .int 0]))) tu (.inr (2, [.int xn, .int xc, .int xv, .int (-1), .int 0, .int 0, .int 0]))) tu = some (.inr (2, [.int xn, .int xc, .int xv, .int (-1), .int 0, .int 0, .int 0])) := mu_s
  have hM : mP E A g (mu (mu (mu (mu M tu (.inr (2, [.int 0, .int 0, .int 0, .int (-1), .int 0, .int 0, .int 0]))) tu (.inr (2, [.int 0, .int xc, .int 0, .int (-1), .int 0, .int 0, .int 0]))) tu (.inr (2, [.int xn, .int xc, .int 0, .int (-1), .int 0, .int 0, .int 0]))) tu (.inr (2, [.int xn, .int xc, .int xv, .int (-1), .int 0, .int 0, .int 0]))) H := hM
  exact w_v hx hb hr hlocks dX1_init_24 hS (Nat.le_of_ble_eq_true rfl) (Nat.le_of_ble_eq_true rfl) (by simpa only [mu_mu] using hM)
theorem in_X2_init_X2 : ∀ w ∈ u_ws RX2 TX2 6, w ∈ wsX2_init := by decide +kernel
set_option maxHeartbeats 4000000 in
set_option maxRecDepth 100000 in
theorem c_roomInit (l : Launch) (E : gE) (A : Nat → Prop) (g : Nat → Nat) (M : gM) (tr : Nat) (xb xc xl : Int32) (h : M tr = some (.inr (3, [.int 0, .int 0, .int 0, .int 0, .int 0, .int 0]))) : Met l yX2_init wsX2_init ({ frames := 1, cells := 0, slots := 0, locals := 20 } : Room) (Pm E [.ref (g tr), .int xb, .int xc, .int xl] (mP E A g M)) (QW none (mP E A g (mu M tr (.inr (3, [.int xb, .int xl, .int xc, .int 0, .int 0, .int 0])))) A) 0 0 A := by
  refine m_entry (by decide) rfl (Nat.le_of_ble_eq_true rfl) ?_
  intro p e s m args below meth c hx hb hr hml hts hown hlocks hin hM hK ls hl
  have hl : lv_has ls 4 [(0, .ref (g tr)), (1, .int xb), (2, .int xc), (3, .int xl)] := hl
  have hown : s.vm.findClass RX2 = some m.cls := hown
  have hS : va_S A s.heap s.heap [] := va_S.rf
  skip
  refine lv_aload_n hx hb dX2_init_0 rfl (lv_at hl 0 rfl) ?_
  refine W.objInit hx hb hown (hts (.methodLink RX2 1 objectInit) (by decide +kernel)) (hts (.instanceMethod objectInit) (by decide +kernel)) (hts (.code objectInit ⟨#[0xb1]⟩ 1 none) (by decide +kernel)) rfl (by rw [hml]; exact hl.1) rfl dX2_init_1 (Nat.le_of_ble_eq_true rfl) (Nat.le_of_ble_eq_true rfl) ?_
  refine W.eq (g2 := F0 m 4 ls []) rfl ?_
  refine lv_aload_n hx hb dX2_init_4 rfl (lv_at hl 0 rfl) ?_
  refine lv_iload_n hx hb dX2_init_5 rfl (lv_at hl 1 rfl) ?_
  refine m_putF hx hb hts in_X2_init_X2 tyX2 tyX2_ok nmX2 hown hK hM hS h rfl 0 (by decide) (by decide +kernel) rfl hin rfl (tyX2_ok 0 (by decide)) rfl rfl (Nat.le_of_ble_eq_true rfl) dX2_init_6 (fun H locs hM hz hS => ?_)
  have hm_1 : (mu M tr (.inr (3, [.int xb, .int 0, .int 0, .int 0, .int 0, .int 0]))) tr = some (.inr (3, [.int xb, .int 0, .int 0, .int 0, .int 0, .int 0])) := mu_s
  have hM : mP E A g (mu M tr (.inr (3, [.int xb, .int 0, .int 0, .int 0, .int 0, .int 0]))) H := hM
  refine lv_aload_n hx hb dX2_init_9 rfl (lv_at hl 0 rfl) ?_
  refine lv_iload_n hx hb dX2_init_10 rfl (lv_at hl 2 rfl) ?_
  refine m_put hx hb hts in_X2_init_X2 tyX2 tyX2_ok nmX2 hown hK hM hS hm_1 rfl 2 (by decide) (by decide +kernel) rfl (tyX2_ok 2 (by decide)) rfl rfl (Nat.le_of_ble_eq_true rfl) dX2_init_11 (fun H locs hM hz hS => ?_)
  have hm_2 : (mu (mu M tr (.inr (3, [.int xb, .int 0, .int 0, .int 0, .int 0, .int 0]))) tr (.inr (3, [.int xb, .int 0, .int xc, .int 0, .int 0, .int 0]))) tr = some (.inr (3, [.int xb, .int 0, .int xc, .int 0, .int 0, .int 0])) := mu_s
  have hM : mP E A g (mu (mu M tr (.inr (3, [.int xb, .int 0, .int 0, .int 0, .int 0, .int 0]))) tr (.inr (3, [.int xb, .int 0, .int xc, .int 0, .int 0, .int 0]))) H := hM
  refine lv_aload_n hx hb dX2_init_14 rfl (lv_at hl 0 rfl) ?_
  refine lv_iload_n hx hb dX2_init_15 rfl (lv_at hl 3 rfl) ?_
  refine m_putF hx hb hts in_X2_init_X2 tyX2 tyX2_ok nmX2 hown hK hM hS hm_2 rfl 1 (by decide) (by decide +kernel) rfl hin rfl (tyX2_ok 1 (by decide)) rfl rfl (Nat.le_of_ble_eq_true rfl) dX2_init_16 (fun H locs hM hz hS => ?_)
  have hm_3 : (mu (mu (mu M tr (.inr (3, [.int xb, .int 0, .int 0, .int 0, .int 0, .int 0]))) tr (.inr (3, [.int xb, .int 0, .int xc, .int 0, .int 0, .int 0]))) tr (.inr (3, [.int xb, .int xl, .int xc, .int 0, .int 0, .int 0]))) tr = some (.inr (3, [.int xb, .int xl, .int xc, .int 0, .int 0, .int 0])) := mu_s
  have hM : mP E A g (mu (mu (mu M tr (.inr (3, [.int xb, .int 0, .int 0, .int 0, .int 0, .int 0]))) tr (.inr (3, [.int xb, .int 0, .int xc, .int 0, .int 0, .int 0]))) tr (.inr (3, [.int xb, .int xl, .int xc, .int 0, .int 0, .int 0]))) H := hM
  exact w_v hx hb hr hlocks dX2_init_19 hS (Nat.le_of_ble_eq_true rfl) (Nat.le_of_ble_eq_true rfl) (by simpa only [mu_mu] using hM)
theorem in_X0_init_X0 : ∀ w ∈ u_ws RX0 TX0 5, w ∈ wsX0_init := by decide +kernel
set_option maxHeartbeats 4000000 in
set_option maxRecDepth 100000 in
theorem c_ghostInit (l : Launch) (E : gE) (A : Nat → Prop) (g : Nat → Nat) (M : gM) (tg tp : Nat) (htg : tg ≠ tp) (xr xf xw xb : Int32) (h : M tg = some (.inr (1, [.int 0, .int 0, .int 0, .int 0, .null]))) (hn : M tp = none) : Met l yX0_init wsX0_init ({ frames := 1, cells := 1, slots := 12, locals := 20 } : Room) (Pm E [.ref (g tg), .int xr, .int xf, .int xw, .int xb] (fun H => mP E A g M H ∧ ∀ q : Nat, H.size ≤ q → A q)) (QW none (fun H => ∃ q, mP E A (gu1 g tp q) (mu (mu M tp (.inl (E.2.1, 12, .inl (fun _ => 0)))) tg (.inr (1, [.int xr, .int xf, .int xw, .int xb, .ref q]))) H) A) 1 12 A := by
  refine m_entry (by decide) rfl (Nat.le_of_ble_eq_true rfl) ?_
  intro p e s m args below meth c hx hb hr hml hts hown hlocks hin hP hK ls hl
  have hl : lv_has ls 5 [(0, .ref (g tg)), (1, .int xr), (2, .int xf), (3, .int xw), (4, .int xb)] := hl
  have hown : s.vm.findClass RX0 = some m.cls := hown
  have hS : va_S A s.heap s.heap [] := va_S.rf
  skip
  obtain ⟨hM, hA⟩ := hP
  refine lv_aload_n hx hb dX0_init_0 rfl (lv_at hl 0 rfl) ?_
  refine W.objInit hx hb hown (hts (.methodLink RX0 3 objectInit) (by decide +kernel)) (hts (.instanceMethod objectInit) (by decide +kernel)) (hts (.code objectInit ⟨#[0xb1]⟩ 1 none) (by decide +kernel)) rfl (by rw [hml]; exact hl.1) rfl dX0_init_1 (Nat.le_of_ble_eq_true rfl) (Nat.le_of_ble_eq_true rfl) ?_
  refine W.eq (g2 := F0 m 4 ls []) rfl ?_
  refine lv_aload_n hx hb dX0_init_4 rfl (lv_at hl 0 rfl) ?_
  refine lv_bipush (v := 12) hx hb dX0_init_5 (by decide) ?_
  obtain ⟨q7, hq7⟩ : ∃ q, q = s.heap.size := ⟨_, rfl⟩
  refine m_newa hx hb hts (by decide +kernel) hK hM hS hA tp (hn) 12 (by decide) (by decide) (by decide) (Nat.le_of_ble_eq_true rfl) (Nat.le_of_ble_eq_true rfl) dX0_init_7 (fun H hM hz ho hS => ?_)
  rw [← hq7] at hM ⊢
  refine W.eq (g2 := F0 m 9 ls [.ref (gu1 g tp q7 tp), .ref (gu1 g tp q7 tg)]) (by rw [gu1_n htg]) ?_
  refine m_putF hx hb hts in_X0_init_X0 tyX0 tyX0_ok nmX0 hown hK hM hS ((mu_n htg).trans h) rfl 4 (by decide) (by decide +kernel) rfl hin rfl (tyX0_ok 4 (by decide)) rfl rfl (Nat.le_of_ble_eq_true rfl) dX0_init_9 (fun H locs hM hz hS => ?_)
  skip
  refine lv_aload_n hx hb dX0_init_12 rfl (lv_at hl 0 rfl) ?_
  refine lv_iload_n hx hb dX0_init_13 rfl (lv_at hl 1 rfl) ?_
  refine W.eq (g2 := F0 m 14 ls [.int xr, .ref (gu1 g tp q7 tg)]) (by rw [gu1_n htg]) ?_
  refine m_putF hx hb hts in_X0_init_X0 tyX0 tyX0_ok nmX0 hown hK hM hS mu_s rfl 0 (by decide) (by decide +kernel) rfl hin rfl (tyX0_ok 0 (by decide)) rfl rfl (Nat.le_of_ble_eq_true rfl) dX0_init_14 (fun H locs hM hz hS => ?_)
  rw [mu_mu] at hM
  refine lv_aload_n hx hb dX0_init_17 rfl (lv_at hl 0 rfl) ?_
  refine lv_iload_n hx hb dX0_init_18 rfl (lv_at hl 2 rfl) ?_
  refine W.eq (g2 := F0 m 19 ls [.int xf, .ref (gu1 g tp q7 tg)]) (by rw [gu1_n htg]) ?_
  refine m_putF hx hb hts in_X0_init_X0 tyX0 tyX0_ok nmX0 hown hK hM hS mu_s rfl 1 (by decide) (by decide +kernel) rfl hin rfl (tyX0_ok 1 (by decide)) rfl rfl (Nat.le_of_ble_eq_true rfl) dX0_init_19 (fun H locs hM hz hS => ?_)
  rw [mu_mu] at hM
  refine lv_aload_n hx hb dX0_init_22 rfl (lv_at hl 0 rfl) ?_
  refine lv_iload_n hx hb dX0_init_23 rfl (lv_at hl 3 rfl) ?_
  refine W.eq (g2 := F0 m 24 ls [.int xw, .ref (gu1 g tp q7 tg)]) (by rw [gu1_n htg]) ?_
  refine m_putF hx hb hts in_X0_init_X0 tyX0 tyX0_ok nmX0 hown hK hM hS mu_s rfl 2 (by decide) (by decide +kernel) rfl hin rfl (tyX0_ok 2 (by decide)) rfl rfl (Nat.le_of_ble_eq_true rfl) dX0_init_24 (fun H locs hM hz hS => ?_)
  rw [mu_mu] at hM
  refine lv_aload_n hx hb dX0_init_27 rfl (lv_at hl 0 rfl) ?_
  refine lv_iload hx hb dX0_init_28 (lv_at hl 4 rfl) ?_
  refine W.eq (g2 := F0 m 30 ls [.int xb, .ref (gu1 g tp q7 tg)]) (by rw [gu1_n htg]) ?_
  refine m_putF hx hb hts in_X0_init_X0 tyX0 tyX0_ok nmX0 hown hK hM hS mu_s rfl 3 (by decide) (by decide +kernel) rfl hin rfl (tyX0_ok 3 (by decide)) rfl rfl (Nat.le_of_ble_eq_true rfl) dX0_init_30 (fun H locs hM hz hS => ?_)
  rw [mu_mu] at hM
  exact w_v hx hb hr hlocks dX0_init_33 hS (Nat.le_of_ble_eq_true rfl) (Nat.le_of_ble_eq_true rfl) (⟨q7, by rw [gu1_s] at hM; exact hM⟩)
theorem in_X3_init_X3 : ∀ w ∈ u_ws RX3 TX3 3, w ∈ wsX3_init := by decide +kernel
set_option maxHeartbeats 4000000 in
set_option maxRecDepth 100000 in
theorem c_seatInit (l : Launch) (E : gE) (A : Nat → Prop) (g : Nat → Nat) (M : gM) (h4 : M 4 = some (.inr (4, [.null, .null, .int 0]))) (h5 : M 5 = none) (h6 : M 6 = none) : Met l yX3_init wsX3_init ({ frames := 1, cells := 2, slots := 22, locals := 20 } : Room) (Pm E [.ref (g 4)] (fun H => mP E A g M H ∧ ∀ q : Nat, H.size ≤ q → A q)) (QW none (fun H => ∃ g' M', (∀ t, t ≠ 5 → t ≠ 6 → g' t = g t) ∧ mP E A g' M' H ∧ M' 4 = some (.inr (4, [.ref (g' 5), .ref (g' 6), .int 0])) ∧ (∃ f, M' 5 = some (.inl (E.2.1, 12, .inl f))) ∧ (∃ f, M' 6 = some (.inl (E.2.1, 10, .inl f))) ∧ ∀ t, t ≠ 4 → t ≠ 5 → t ≠ 6 → M' t = M t) A) 2 22 A := by
  refine m_entry (by decide) rfl (Nat.le_of_ble_eq_true rfl) ?_
  intro p e s m args below meth c hx hb hr hml hts hown hlocks hin hP hK ls hl
  have hl : lv_has ls 1 [(0, .ref (g 4))] := hl
  have hown : s.vm.findClass RX3 = some m.cls := hown
  have hS : va_S A s.heap s.heap [] := va_S.rf
  skip
  obtain ⟨hM, hA⟩ := hP
  refine lv_aload_n hx hb dX3_init_0 rfl (lv_at hl 0 rfl) ?_
  refine W.objInit hx hb hown (hts (.methodLink RX3 3 objectInit) (by decide +kernel)) (hts (.instanceMethod objectInit) (by decide +kernel)) (hts (.code objectInit ⟨#[0xb1]⟩ 1 none) (by decide +kernel)) rfl (by rw [hml]; exact hl.1) rfl dX3_init_1 (Nat.le_of_ble_eq_true rfl) (Nat.le_of_ble_eq_true rfl) ?_
  refine W.eq (g2 := F0 m 4 ls []) rfl ?_
  refine lv_aload_n hx hb dX3_init_4 rfl (lv_at hl 0 rfl) ?_
  refine lv_bipush (v := 12) hx hb dX3_init_5 (by decide) ?_
  obtain ⟨q5, hq5⟩ : ∃ q, q = s.heap.size := ⟨_, rfl⟩
  refine m_newa hx hb hts (by decide +kernel) hK hM hS hA 5 (h5) 12 (by decide) (by decide) (by decide) (Nat.le_of_ble_eq_true rfl) (Nat.le_of_ble_eq_true rfl) dX3_init_7 (fun H hM hz ho hS => ?_)
  rw [← hq5] at hM ⊢
  have hA := fun (q : Nat) (h : H.size ≤ q) => hA q (by omega)
  refine W.eq (g2 := F0 m 9 ls [.ref ((gu1 (g) 5 q5) 5), .ref ((gu1 (g) 5 q5) 4)]) rfl ?_
  refine m_putF hx hb hts in_X3_init_X3 tyX3 tyX3_ok nmX3 hown hK hM hS ((mu_n (u := 4) (t := 5) (by decide)).trans h4) rfl 0 (by decide) (by decide +kernel) rfl hin rfl (tyX3_ok 0 (by decide)) rfl rfl (Nat.le_of_ble_eq_true rfl) dX3_init_9 (fun H locs hM hz hS => ?_)
  have hA := fun (q : Nat) (h : H.size ≤ q) => hA q (by omega)
  refine lv_aload_n hx hb dX3_init_12 rfl (lv_at hl 0 rfl) ?_
  refine lv_bipush (v := 10) hx hb dX3_init_13 (by decide) ?_
  obtain ⟨q6, hq6⟩ : ∃ q, q = H.size := ⟨_, rfl⟩
  refine m_newa hx hb hts (by decide +kernel) hK hM hS hA 6 ((mu_n (u := 6) (t := 4) (by decide)).trans ((mu_n (u := 6) (t := 5) (by decide)).trans h6)) 10 (by decide) (by decide) (by decide) (Nat.le_of_ble_eq_true rfl) (Nat.le_of_ble_eq_true rfl) dX3_init_15 (fun H hM hz ho hS => ?_)
  rw [← hq6] at hM ⊢
  have hA := fun (q : Nat) (h : H.size ≤ q) => hA q (by omega)
  refine W.eq (g2 := F0 m 17 ls [.ref ((gu1 (gu1 (g) 5 q5) 6 q6) 6), .ref ((gu1 (gu1 (g) 5 q5) 6 q6) 4)]) rfl ?_
  refine m_putF hx hb hts in_X3_init_X3 tyX3 tyX3_ok nmX3 hown hK hM hS ((mu_n (u := 4) (t := 6) (by decide)).trans mu_s) rfl 1 (by decide) (by decide +kernel) rfl hin rfl (tyX3_ok 1 (by decide)) rfl rfl (Nat.le_of_ble_eq_true rfl) dX3_init_17 (fun H locs hM hz hS => ?_)
  have hA := fun (q : Nat) (h : H.size ≤ q) => hA q (by omega)
  exact w_v hx hb hr hlocks dX3_init_20 hS (Nat.le_of_ble_eq_true rfl) (Nat.le_of_ble_eq_true rfl) (⟨gu1 (gu1 (g) 5 q5) 6 q6, _, fun t h5 h6 => by rw [gu1_n h6, gu1_n h5], hM, rfl, ⟨fun _ => 0, rfl⟩, ⟨fun _ => 0, rfl⟩, fun t h4 h5 h6 => by rw [mu_n h4, mu_n h6, mu_n h4, mu_n h5]⟩)
