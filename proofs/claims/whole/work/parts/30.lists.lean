theorem mn_le {a b : Nat} (h : a ≤ b) (hb : b < 2 ^ 31) : (if nI b < nI a then nI b else nI a) = nI a := by
  by_cases q : nI b < nI a
  · exact absurd q (nI_nlt h hb)
  · exact if_neg q
set_option maxHeartbeats 4000000 in
set_option maxRecDepth 100000 in
theorem c_alInit2 (l : Launch) (E : gE) (A : Nat → Prop) (g : Nat → Nat) (M : gM) (tl : Nat) : Met l yJxa1e45_init_da8c8 wsJxa1e45_init_da8c8 ({ frames := 1, cells := 0, slots := 0, locals := 20 } : Room) (Pm E [.ref (g tl)] (mP E A g M)) (QW none (mP E A g M) A) 0 0 A := by
  refine m_entry (by decide) rfl (Nat.le_of_ble_eq_true rfl) ?_
  intro p e s m args below meth c hx hb hr hml hts hown hlocks hin hM hK ls hl
  have hl : lv_has ls 1 [(0, .ref (g tl))] := hl
  have hown : s.vm.findClass RJxa1e45 = some m.cls := hown
  have hS : va_S A s.heap s.heap [] := va_S.rf
  skip
  refine lv_aload_n hx hb dJxa1e45_init_da8c8_0 rfl (lv_at hl 0 rfl) ?_
  refine W.objInit hx hb hown (hts (.methodLink RJxa1e45 1 objectInit) (by decide +kernel)) (hts (.instanceMethod objectInit) (by decide +kernel)) (hts (.code objectInit ⟨#[0xb1]⟩ 1 none) (by decide +kernel)) rfl (by rw [hml]; exact hl.1) rfl dJxa1e45_init_da8c8_1 (Nat.le_of_ble_eq_true rfl) (Nat.le_of_ble_eq_true rfl) ?_
  refine W.eq (g2 := F0 m 4 ls []) rfl ?_
  exact w_v hx hb hr hlocks dJxa1e45_init_da8c8_4 hS (Nat.le_of_ble_eq_true rfl) (Nat.le_of_ble_eq_true rfl) (hM)
theorem in_Jxc12de_init_da8c8_Jx4a65c : ∀ w ∈ u_ws RJx4a65c TJx4a65c 3, w ∈ wsJxc12de_init_da8c8 := by decide +kernel
set_option maxHeartbeats 4000000 in
set_option maxRecDepth 100000 in
theorem c_alInit1 (l : Launch) (E : gE) (A : Nat → Prop) (g : Nat → Nat) (M : gM) (tl : Nat) (h : M tl = some (.inr (0, [.int 0, .null, .int 0]))) : Met l yJxc12de_init_da8c8 wsJxc12de_init_da8c8 ({ frames := 2, cells := 0, slots := 0, locals := 40 } : Room) (Pm E [.ref (g tl)] (mP E A g M)) (QW none (mP E A g M) A) 0 0 A := by
  refine m_entry (by decide) rfl (Nat.le_of_ble_eq_true rfl) ?_
  intro p e s m args below meth c hx hb hr hml hts hown hlocks hin hM hK ls hl
  have hl : lv_has ls 1 [(0, .ref (g tl))] := hl
  have hown : s.vm.findClass RJxc12de = some m.cls := hown
  have hS : va_S A s.heap s.heap [] := va_S.rf
  skip
  refine lv_aload_n hx hb dJxc12de_init_da8c8_0 rfl (lv_at hl 0 rfl) ?_
  refine m_wI 0 [] [] hx hb hml hown hts hK (c_alInit2 l E A g M tl) gJxc12de_init_da8c8_Jxa1e45_init_da8c8 rfl rfl rfl (by decide +kernel) (by decide +kernel) (by decide +kernel) rfl (by decide +kernel) rfl ⟨Nat.le_of_ble_eq_true rfl, Nat.le_of_ble_eq_true rfl⟩ hM hl.1 (Nat.le_of_ble_eq_true rfl) ⟨Nat.le_of_ble_eq_true rfl, Nat.le_of_ble_eq_true rfl⟩ rfl dJxc12de_init_da8c8_1 hS (fun _ _ h => h) (fun _ h => h) (fun H locs hQ hz hk hS => ?_)
  refine W.eq (g2 := F0 m 4 ls []) rfl ?_
  have hM := hQ
  refine lv_aload_n hx hb dJxc12de_init_da8c8_4 rfl (lv_at hl 0 rfl) ?_
  refine lv_iconst (v := 0) hx hb dJxc12de_init_da8c8_5 (by decide) ?_
  refine m_put hx hb hts in_Jxc12de_init_da8c8_Jx4a65c tyJx4a65c tyJx4a65c_ok nmJx4a65c hown hK hM hS h rfl 0 (by decide) (by decide +kernel) rfl (tyJx4a65c_ok 0 (by decide)) rfl rfl (Nat.le_of_ble_eq_true rfl) dJxc12de_init_da8c8_6 (fun H locs hM hz hS => ?_)
  have hm_1 : (mu M tl (.inr (0, [.int 0, .null, .int 0]))) tl = some (.inr (0, [.int 0, .null, .int 0])) := mu_s
  have hM : mP E A g (mu M tl (.inr (0, [.int 0, .null, .int 0]))) H := hM
  exact w_v hx hb hr hlocks dJxc12de_init_da8c8_9 hS (Nat.le_of_ble_eq_true rfl) (Nat.le_of_ble_eq_true rfl) (by rw [mu_id h] at hM; exact hM)
theorem in_Jx4a65c_init_da8c8_Jx4a65c : ∀ w ∈ u_ws RJx4a65c TJx4a65c 3, w ∈ wsJx4a65c_init_da8c8 := by decide +kernel
set_option maxHeartbeats 4000000 in
set_option maxRecDepth 100000 in
theorem c_alInit (l : Launch) (E : gE) (A : Nat → Prop) (g : Nat → Nat) (M : gM) (tl : Nat) (h : M tl = some (.inr (0, [.int 0, .null, .int 0]))) : Met l yJx4a65c_init_da8c8 wsJx4a65c_init_da8c8 ({ frames := 3, cells := 0, slots := 0, locals := 60 } : Room) (Pz E A [.ref (g tl)] (mP E A g M)) (QW none (mP E A g (mu M tl (.inr (0, [.int 0, .ref E.2.2.2.2, .int 0])))) A) 0 0 A := by
  refine z_entry (by decide) rfl (Nat.le_of_ble_eq_true rfl) ?_
  intro p e s m args below meth c hx hb hr hml hts hown hlocks hin hM hK hZ ls hl
  have hl : lv_has ls 1 [(0, .ref (g tl))] := hl
  have hown : s.vm.findClass RJx4a65c = some m.cls := hown
  have hS : va_S A s.heap s.heap [] := va_S.rf
  skip
  refine lv_aload_n hx hb dJx4a65c_init_da8c8_0 rfl (lv_at hl 0 rfl) ?_
  refine m_wI 0 [] [] hx hb hml hown hts hK (c_alInit1 l E A g M tl h) gJx4a65c_init_da8c8_Jxc12de_init_da8c8 rfl rfl rfl (by decide +kernel) (by decide +kernel) (by decide +kernel) rfl (by decide +kernel) rfl ⟨Nat.le_of_ble_eq_true rfl, Nat.le_of_ble_eq_true rfl⟩ hM hl.1 (Nat.le_of_ble_eq_true rfl) ⟨Nat.le_of_ble_eq_true rfl, Nat.le_of_ble_eq_true rfl⟩ rfl dJx4a65c_init_da8c8_1 hS (fun _ _ h => h) (fun _ h => h) (fun H locs hQ hz hk hS => ?_)
  refine W.eq (g2 := F0 m 4 ls []) rfl ?_
  have hM := hQ
  refine lv_aload_n hx hb dJx4a65c_init_da8c8_4 rfl (lv_at hl 0 rfl) ?_
  refine va_gets hx hb hZ.2.1 hS hown (hts (.fieldLink RJx4a65c 39 "java/util/ArrayList" "DEFAULTCAPACITY_EMPTY_ELEMENTDATA" "[Ljava/lang/Object;") (by decide +kernel)) (fun _ h => h) dJx4a65c_init_da8c8_5 ?_
  refine m_put hx hb hts in_Jx4a65c_init_da8c8_Jx4a65c tyJx4a65c tyJx4a65c_ok nmJx4a65c hown hK hM hS h rfl 1 (by decide) (by decide +kernel) rfl (tyJx4a65c_ok 1 (by decide)) rfl rfl (Nat.le_of_ble_eq_true rfl) dJx4a65c_init_da8c8_8 (fun H locs hM hz hS => ?_)
  have hm_1 : (mu M tl (.inr (0, [.int 0, .ref E.2.2.2.2, .int 0]))) tl = some (.inr (0, [.int 0, .ref E.2.2.2.2, .int 0])) := mu_s
  have hM : mP E A g (mu M tl (.inr (0, [.int 0, .ref E.2.2.2.2, .int 0]))) H := hM
  exact w_v hx hb hr hlocks dJx4a65c_init_da8c8_11 hS (Nat.le_of_ble_eq_true rfl) (Nat.le_of_ble_eq_true rfl) (hM)
set_option maxHeartbeats 4000000 in
set_option maxRecDepth 100000 in
theorem c_copyOf3 (l : Launch) (E : gE) (A : Nat → Prop) (g : Nat → Nat) (M : gM) (t0 tn n0 n1 ci : Nat) (r : vw_C) (f : Nat → Option Nat) (h0 : M t0 = some (.inl (E.2.2.2.1, n0, .inr (.inr (.inr (.inr (f))))))) (hn : M tn = none) (h01 : n0 ≤ n1) (h15 : n1 ≤ 15) (hc : vwCl[ci]? = some r) (hr9 : r.1 ∈ [RX0, RX1, RX2]) (hel : ∀ i, i < n0 → ∀ y, f i = some y → ∃ (tv : Nat) (vs : List Value), M tv = some (.inr (ci, vs)) ∧ y = g tv) : Met l yJ7_copyOf_6403c wsJ7_copyOf_6403c ({ frames := 1, cells := 1, slots := 15, locals := 60 } : Room) (Pz E A [.ref (g t0), .int (nI n1), .ref (miE E)] (fun H => mP E A g M H ∧ ∀ q : Nat, H.size ≤ q → A q)) (QR (fun q H => mP E A (gu1 g tn q) (mu M tn (.inl (E.2.2.2.1, n1, .inr (.inr (.inr (.inr (va_cpy f (fun _ => none) 0 0 n0))))))) H) A) 1 15 A := by
  refine z_entry (by decide) rfl (Nat.le_of_ble_eq_true rfl) ?_
  intro p e s m args below meth c hx hb hr hml hts hown hlocks hin hP hK hZ ls hl
  have hl : lv_has ls 4 [(0, .ref (g t0)), (1, .int (nI n1)), (2, .ref (miE E))] := hl
  have hown : s.vm.findClass RJ7 = some m.cls := hown
  have hS : va_S A s.heap s.heap [] := va_S.rf
  skip
  obtain ⟨hM, hA⟩ := hP
  have ht0n : t0 ≠ tn := fun e9 => by rw [e9, hn] at h0; cases h0
  refine lv_aload_n hx hb dJ7_copyOf_6403c_0 rfl (lv_at hl 2 rfl) ?_
  refine va_ldcM hx hb hown (hts (.classLink RJ7 110 "[Ljava/lang/Object;") (by decide +kernel)) hZ.1.2.2.1 dJ7_copyOf_6403c_1 ?_
  refine lv_acmp_ne (rx := some (miE E)) (ry := some (miE E)) (tgt := 13) hx hb dJ7_copyOf_6403c_3 (by decide) (fun c9 => absurd rfl c9) (fun c9 => ?_)
  refine lv_iload_n hx hb dJ7_copyOf_6403c_6 rfl (lv_at hl 1 rfl) ?_
  obtain ⟨q9, hq9⟩ : ∃ q, q = s.heap.size := ⟨_, rfl⟩
  refine m_newq hx hb hts hown (by decide +kernel) hZ.1.1 hK hM hS hA tn hn n1 (nI_pos (by omega)) (nI_clamp (by omega)) (by omega) (Nat.le_of_ble_eq_true rfl) (by show 0 + n1 ≤ 15; omega) dJ7_copyOf_6403c_7 (fun H hM hz ho hS => ?_)
  rw [← hq9] at hM ⊢
  refine lv_goto (tgt := 24) hx hb dJ7_copyOf_6403c_10 (by decide) ?_
  refine lv_astore_n (lv' := [(3, .ref q9), (0, .ref (g t0)), (1, .int (nI n1)), (2, .ref (miE E))]) hx hb dJ7_copyOf_6403c_24 rfl hl (by decide) rfl (fun ls hl => ?_)
  refine lv_aload_n hx hb dJ7_copyOf_6403c_25 rfl (lv_at hl 1 rfl) ?_
  refine lv_iconst (v := 0) hx hb dJ7_copyOf_6403c_26 (by decide) ?_
  refine lv_aload_n hx hb dJ7_copyOf_6403c_27 rfl (lv_at hl 0 rfl) ?_
  refine lv_iconst (v := 0) hx hb dJ7_copyOf_6403c_28 (by decide) ?_
  refine lv_aload_n hx hb dJ7_copyOf_6403c_29 rfl (lv_at hl 1 rfl) ?_
  refine W.eq (g2 := F0 m 30 ls [.ref (gu1 g tn q9 t0), .int 0, .ref q9, .int 0, .ref (g t0)]) (by rw [gu1_n ht0n]) ?_
  refine m_alenO (v := nI n0) hx hb hK hM (t := t0) ((mu_n ht0n).trans h0) rfl dJ7_copyOf_6403c_30 ?_
  refine lv_iload_n hx hb dJ7_copyOf_6403c_31 rfl (lv_at hl 2 rfl) ?_
  refine va_mmin hx hb (hml.trans hl.1.symm) hown (hts (.methodLink RJ7 304 Lib.Math.min.name) (by decide +kernel)) (hts (.static Lib.Math.min.name) (by decide +kernel)) (hts (.initialized "java/lang/Math") (by decide +kernel)) (hts (.code Lib.Math.min.name Lib.Math.min.code 2 (some .int)) (by decide +kernel)) (Nat.le_of_ble_eq_true rfl) (Nat.le_of_ble_eq_true rfl) (Nat.le_of_ble_eq_true rfl) (show 0 + n1 ≤ 15 by omega) dJ7_copyOf_6403c_32 ?_
  rw [show (if (nI n1) < (nI n0) then (nI n1) else (nI n0) : Int32) = nI n0 from mn_le h01 (by omega)]
  refine W.eq (g2 := F0 m 35 ls [.int (nI n0), .int 0, .ref (gu1 g tn q9 tn), .int 0, .ref (gu1 g tn q9 t0)]) (by rw [gu1_s, gu1_n ht0n]) ?_
  refine m_copyq (t0 := t0) (t1 := tn) (n0 := n0) (n1 := n1) (ci := ci) hx hb (hml.trans hl.1.symm) hown hts (by decide +kernel) (by decide +kernel) (by decide +kernel) (by decide +kernel) hK hM hS ((mu_n ht0n).trans h0) mu_s hc (hZ.1.2.2.2.1 r.1 hr9) (by decide) (by decide) (nI_pos (by omega)) (by rw [nI_clamp (by omega)]; show 0 + n0 ≤ n0; omega) (by rw [nI_clamp (by omega)]; show 0 + n0 ≤ n1; omega) (fun i hi y hy => ?_) (Nat.le_of_ble_eq_true rfl) (Nat.le_of_ble_eq_true rfl) dJ7_copyOf_6403c_35 (fun H locs hM hz hS => ?_)
  · rw [nI_clamp (by omega)] at hi
    rw [show (0 : Int32).toNatClampNeg + i = i from Nat.zero_add i] at hy
    obtain ⟨tv, vs, a9, b9⟩ := hel i hi y hy
    have hne : tv ≠ tn := fun e9 => by rw [e9, hn] at a9; cases a9
    exact ⟨tv, vs, (mu_n hne).trans a9, by rw [gu1_n hne]; exact b9⟩
  rw [mu_mu, nI_clamp (show n0 < 2 ^ 31 by omega)] at hM
  refine W.eq (g2 := F0 m 38 ls []) rfl ?_
  refine lv_aload_n hx hb dJ7_copyOf_6403c_38 rfl (lv_at hl 0 rfl) ?_
  exact w_r hx hb hr hlocks dJ7_copyOf_6403c_39 hS (Nat.le_of_ble_eq_true rfl) (show 0 + n1 ≤ 15 by omega) (hM)
set_option maxHeartbeats 4000000 in
set_option maxRecDepth 100000 in
theorem c_copyOf2 (l : Launch) (E : gE) (A : Nat → Prop) (g : Nat → Nat) (M : gM) (t0 tn n0 n1 ci : Nat) (r : vw_C) (f : Nat → Option Nat) (h0 : M t0 = some (.inl (E.2.2.2.1, n0, .inr (.inr (.inr (.inr (f))))))) (hn : M tn = none) (h01 : n0 ≤ n1) (h15 : n1 ≤ 15) (hc : vwCl[ci]? = some r) (hr9 : r.1 ∈ [RX0, RX1, RX2]) (hel : ∀ i, i < n0 → ∀ y, f i = some y → ∃ (tv : Nat) (vs : List Value), M tv = some (.inr (ci, vs)) ∧ y = g tv) : Met l yJ7_copyOf_1904c wsJ7_copyOf_1904c ({ frames := 2, cells := 1, slots := 15, locals := 83 } : Room) (Pz E A [.ref (g t0), .int (nI n1)] (fun H => mP E A g M H ∧ ∀ q : Nat, H.size ≤ q → A q)) (QR (fun q H => mP E A (gu1 g tn q) (mu M tn (.inl (E.2.2.2.1, n1, .inr (.inr (.inr (.inr (va_cpy f (fun _ => none) 0 0 n0))))))) H) A) 1 15 A := by
  refine z_entry (by decide) rfl (Nat.le_of_ble_eq_true rfl) ?_
  intro p e s m args below meth c hx hb hr hml hts hown hlocks hin hP hK hZ ls hl
  have hl : lv_has ls 2 [(0, .ref (g t0)), (1, .int (nI n1))] := hl
  have hown : s.vm.findClass RJ7 = some m.cls := hown
  have hS : va_S A s.heap s.heap [] := va_S.rf
  skip
  obtain ⟨hM, hA⟩ := hP
  refine lv_aload_n hx hb dJ7_copyOf_1904c_0 rfl (lv_at hl 0 rfl) ?_
  refine lv_iload_n hx hb dJ7_copyOf_1904c_1 rfl (lv_at hl 1 rfl) ?_
  refine lv_aload_n hx hb dJ7_copyOf_1904c_2 rfl (lv_at hl 0 rfl) ?_
  have hcl9 : s.vm.findClass "[Ljava/lang/Object;" = some E.2.2.2.1 := va_nmO (C := "java/lang/Object") (hK.2 2 _ rfl).2 (by decide +kernel)
  have hc9 : s.heap[g t0]? = some (vp_cell E.2.2.2.1 (n0, .inr (.inr (.inr (.inr f))))) := (hM.1 t0 _ h0).1
  refine va_getC (C := "[Ljava/lang/Object;") hx hb (hml.trans hl.1.symm) hown (hts (.methodLink RJ7 86 ⟨"java/lang/Object", "getClass", "()Ljava/lang/Class;"⟩) (by decide +kernel)) (va_Dc.use hZ.1.2.1) (hts (.selects "[Ljava/lang/Object;" ⟨"java/lang/Object", "getClass", "()Ljava/lang/Class;"⟩ ⟨"java/lang/Object", "getClass", "()Ljava/lang/Class;"⟩) (by decide +kernel)) (hts (.instanceMethod ⟨"java/lang/Object", "getClass", "()Ljava/lang/Class;"⟩) (by decide +kernel)) (hts (.native ⟨"java/lang/Object", "getClass", "()Ljava/lang/Class;"⟩) (by decide +kernel)) hZ.1.2.2.1 ⟨_, hc9, rfl, hcl9⟩ (Nat.le_of_ble_eq_true rfl) (Nat.le_of_ble_eq_true rfl) dJ7_copyOf_1904c_3 ?_
  refine m_rS 3 [.ref (g t0), .int (nI n1), .ref (miE E)] [] hx hb hml hown hts hK (c_copyOf3 l E A g M t0 tn n0 n1 ci r f h0 hn h01 h15 hc hr9 hel) gJ7_copyOf_1904c_J7_copyOf_6403c rfl rfl rfl (by decide +kernel) rfl ⟨Nat.le_of_ble_eq_true rfl, Nat.le_of_ble_eq_true rfl⟩ ⟨hM, hA⟩ hl.1 (Nat.le_of_ble_eq_true rfl) ⟨Nat.le_of_ble_eq_true rfl, Nat.le_of_ble_eq_true rfl⟩ rfl dJ7_copyOf_1904c_6 hZ (fun _ h => h) hS (fun _ _ h => h) (fun _ h => h) (fun q9 H locs hQ hz hk hS => ?_)
  refine W.eq (g2 := F0 m 9 ls [.ref q9]) rfl ?_
  have hM := hQ
  exact w_r hx hb hr hlocks dJ7_copyOf_1904c_9 hS (Nat.le_of_ble_eq_true rfl) (Nat.le_of_ble_eq_true rfl) (hM)
theorem in_Jx4a65c_grow_92f84_Jx4a65c : ∀ w ∈ u_ws RJx4a65c TJx4a65c 3, w ∈ wsJx4a65c_grow_92f84 := by decide +kernel
set_option maxHeartbeats 4000000 in
set_option maxRecDepth 100000 in
theorem c_grow1E (l : Launch) (E : gE) (A : Nat → Prop) (g : Nat → Nat) (M : gM) (tl te : Nat) (hlt : tl ≠ te) (xm : Int32) (h : M tl = some (.inr (0, [.int xm, .ref E.2.2.2.2, .int (nI 0)]))) (hn : M te = none) : Met l yJx4a65c_grow_92f84 wsJx4a65c_grow_92f84 ({ frames := 4, cells := 1, slots := 15, locals := 120 } : Room) (Pz E A [.ref (g tl), .int (nI 1)] (fun H => mP E A g M H ∧ ∀ q : Nat, H.size ≤ q → A q)) (QR (fun q H => mP E A (gu1 g te q) (mu (mu M te (.inl (E.2.2.2.1, 10, .inr (.inr (.inr (.inr (fun _ => none))))))) tl (.inr (0, [.int xm, .ref q, .int (nI 0)]))) H) A) 1 15 A := by
  refine z_entry (by decide) rfl (Nat.le_of_ble_eq_true rfl) ?_
  intro p e s m args below meth c hx hb hr hml hts hown hlocks hin hP hK hZ ls hl
  have hl : lv_has ls 4 [(0, .ref (g tl)), (1, .int (nI 1))] := hl
  have hown : s.vm.findClass RJx4a65c = some m.cls := hown
  have hS : va_S A s.heap s.heap [] := va_S.rf
  skip
  obtain ⟨hM, hA⟩ := hP
  refine lv_aload_n hx hb dJx4a65c_grow_92f84_0 rfl (lv_at hl 0 rfl) ?_
  refine m_get hx hb hts in_Jx4a65c_grow_92f84_Jx4a65c hown hK hM h rfl 1 (by decide) (by decide +kernel) rfl dJx4a65c_grow_92f84_1 ?_
  refine va_tlen (v := nI 0) hx hb hZ.2.2.1 hS rfl dJx4a65c_grow_92f84_4 ?_
  refine lv_istore_n (lv' := [(2, .int (nI 0)), (0, .ref (g tl)), (1, .int (nI 1))]) hx hb dJx4a65c_grow_92f84_5 rfl hl (by decide) rfl (fun ls hl => ?_)
  refine lv_iload_n hx hb dJx4a65c_grow_92f84_6 rfl (lv_at hl 0 rfl) ?_
  refine lv_if_gt (tgt := 20) hx hb dJx4a65c_grow_92f84_7 (by decide) (fun c9 => absurd c9 (by decide)) (fun c7 => ?_)
  refine lv_aload_n hx hb dJx4a65c_grow_92f84_10 rfl (lv_at hl 1 rfl) ?_
  refine m_get hx hb hts in_Jx4a65c_grow_92f84_Jx4a65c hown hK hM h rfl 1 (by decide) (by decide +kernel) rfl dJx4a65c_grow_92f84_11 ?_
  refine va_gets hx hb hZ.2.1 hS hown (hts (.fieldLink RJx4a65c 39 "java/util/ArrayList" "DEFAULTCAPACITY_EMPTY_ELEMENTDATA" "[Ljava/lang/Object;") (by decide +kernel)) (fun _ h => h) dJx4a65c_grow_92f84_14 ?_
  refine lv_acmp_eq (rx := some E.2.2.2.2) (ry := some E.2.2.2.2) (tgt := 45) hx hb dJx4a65c_grow_92f84_17 (by decide) (fun c9 => ?_) (fun c9 => absurd rfl c9)
  refine lv_aload_n hx hb dJx4a65c_grow_92f84_45 rfl (lv_at hl 1 rfl) ?_
  refine lv_bipush (v := 10) hx hb dJx4a65c_grow_92f84_46 (by decide) ?_
  refine lv_iload_n hx hb dJx4a65c_grow_92f84_48 rfl (lv_at hl 2 rfl) ?_
  refine va_mmax hx hb (hml.trans hl.1.symm) hown (hts (.methodLink RJx4a65c 79 Lib.Math.max.name) (by decide +kernel)) (hts (.static Lib.Math.max.name) (by decide +kernel)) (hts (.initialized "java/lang/Math") (by decide +kernel)) (hts (.code Lib.Math.max.name Lib.Math.max.code 2 (some .int)) (by decide +kernel)) (Nat.le_of_ble_eq_true rfl) (Nat.le_of_ble_eq_true rfl) (Nat.zero_le _) (Nat.zero_le _) dJx4a65c_grow_92f84_49 ?_
  rw [show (if 10 < (nI 1) then (nI 1) else 10 : Int32) = 10 from by decide]
  obtain ⟨q9, hq9⟩ : ∃ q, q = s.heap.size := ⟨_, rfl⟩
  refine m_newq hx hb hts hown (by decide +kernel) hZ.1.1 hK hM hS hA te hn 10 (by decide) (by decide) (by decide) (Nat.le_of_ble_eq_true rfl) (Nat.le_of_ble_eq_true rfl) dJx4a65c_grow_92f84_52 (fun H hM hz ho hS => ?_)
  rw [← hq9] at hM ⊢
  refine lv_dup_x1 hx hb dJx4a65c_grow_92f84_55 rfl rfl ?_
  refine W.eq (g2 := F0 m 56 ls [.ref q9, .ref (gu1 g te q9 tl), .ref q9]) (by rw [gu1_n hlt]) ?_
  refine m_put hx hb hts in_Jx4a65c_grow_92f84_Jx4a65c tyJx4a65c tyJx4a65c_ok nmJx4a65c hown hK hM hS ((mu_n hlt).trans h) rfl 1 (by decide) (by decide +kernel) rfl (tyJx4a65c_ok 1 (by decide)) rfl rfl (Nat.le_of_ble_eq_true rfl) dJx4a65c_grow_92f84_56 (fun H locs hM hz hS => ?_)
  exact w_r hx hb hr hlocks dJx4a65c_grow_92f84_59 hS (Nat.le_of_ble_eq_true rfl) (Nat.le_of_ble_eq_true rfl) (hM)
theorem mP.swap {E : gE} {A : Nat → Prop} {g : Nat → Nat} {M : gM} {H : Heap} {tl te tn q : Nat} {a o : va_E} (hlt : tl ≠ te) (htl : tl ≠ tn) (hte : te ≠ tn) (hn : M tn = none) (h : mP E A (gu1 g tn q) (mu (mu M tn a) tl o) H) : mP E A (gu1 g te q) (mu (mu M te a) tl o) H := by
  have key : ∀ t e, mu (mu M te a) tl o t = some e → t ≠ te → t ≠ tn := by
    intro t e h1 h2 h3
    subst h3
    rw [mu_n (Ne.symm htl), mu_n (Ne.symm hte), hn] at h1
    cases h1
  refine mP.re (fun u => if u = te then tn else u) h (fun t e ht => ?_) (fun t u e f ht hu hφ => ?_)
  · show mu (mu M tn a) tl o (if t = te then tn else t) = some e ∧ gu1 g te q t = gu1 g tn q (if t = te then tn else t)
    by_cases q1 : t = te
    · subst q1
      rw [if_pos rfl, gu1_s, gu1_s, mu_n (Ne.symm htl), mu_s]
      rw [mu_n (Ne.symm hlt), mu_s] at ht
      exact ⟨ht, rfl⟩
    · have q2 := key t e ht q1
      rw [if_neg q1, gu1_n q1, gu1_n q2]
      refine ⟨?_, rfl⟩
      by_cases q3 : t = tl
      · subst q3; rw [mu_s] at ht ⊢; exact ht
      · rw [mu_n q3, mu_n q1] at ht
        rw [mu_n q3, mu_n q2]; exact ht
  · have hφ : (if t = te then tn else t) = (if u = te then tn else u) := hφ
    by_cases q1 : t = te
    · by_cases q2 : u = te
      · rw [q1, q2]
      · rw [if_pos q1, if_neg q2] at hφ
        exact absurd hφ.symm (key u f hu q2)
    · by_cases q2 : u = te
      · rw [if_neg q1, if_pos q2] at hφ
        exact absurd hφ (key t e ht q1)
      · rw [if_neg q1, if_neg q2] at hφ
        exact hφ
set_option maxHeartbeats 4000000 in
set_option maxRecDepth 100000 in
theorem c_grow1F (l : Launch) (E : gE) (A : Nat → Prop) (g : Nat → Nat) (M : gM) (tl te tn : Nat) (hlt : tl ≠ te) (htn : M tn = none) (xm : Int32) (ci : Nat) (r : vw_C) (f : Nat → Option Nat) (hc : vwCl[ci]? = some r) (hr9 : r.1 ∈ [RX0, RX1, RX2]) (h : M tl = some (.inr (0, [.int xm, .ref (g te), .int (nI 10)]))) (h2 : M te = some (.inl (E.2.2.2.1, 10, .inr (.inr (.inr (.inr (f))))))) (hel : ∀ i, i < 10 → ∀ y, f i = some y → ∃ (tv : Nat) (vs : List Value), M tv = some (.inr (ci, vs)) ∧ y = g tv) : Met l yJx4a65c_grow_92f84 wsJx4a65c_grow_92f84 ({ frames := 4, cells := 1, slots := 15, locals := 120 } : Room) (Pz E A [.ref (g tl), .int (nI 11)] (fun H => mP E A g M H ∧ ∀ q : Nat, H.size ≤ q → A q)) (QR (fun q H => mP E A (gu1 g te q) (mu (mu M te (.inl (E.2.2.2.1, 15, .inr (.inr (.inr (.inr (va_cpy f (fun _ => none) 0 0 10))))))) tl (.inr (0, [.int xm, .ref q, .int (nI 10)]))) H) A) 1 15 A := by
  refine z_entry (by decide) rfl (Nat.le_of_ble_eq_true rfl) ?_
  intro p e s m args below meth c hx hb hr hml hts hown hlocks hin hP hK hZ ls hl
  have hl : lv_has ls 4 [(0, .ref (g tl)), (1, .int (nI 11))] := hl
  have hown : s.vm.findClass RJx4a65c = some m.cls := hown
  have hS : va_S A s.heap s.heap [] := va_S.rf
  skip
  obtain ⟨hM, hA⟩ := hP
  have htl : tl ≠ tn := fun e9 => by rw [e9, htn] at h; cases h
  have hte : te ≠ tn := fun e9 => by rw [e9, htn] at h2; cases h2
  refine lv_aload_n hx hb dJx4a65c_grow_92f84_0 rfl (lv_at hl 0 rfl) ?_
  refine m_get hx hb hts in_Jx4a65c_grow_92f84_Jx4a65c hown hK hM h rfl 1 (by decide) (by decide +kernel) rfl dJx4a65c_grow_92f84_1 ?_
  refine m_alenO (v := 10) hx hb hK hM h2 rfl dJx4a65c_grow_92f84_4 ?_
  refine lv_istore_n (lv' := [(2, .int 10), (0, .ref (g tl)), (1, .int (nI 11))]) hx hb dJx4a65c_grow_92f84_5 rfl hl (by decide) rfl (fun ls hl => ?_)
  refine lv_iload_n hx hb dJx4a65c_grow_92f84_6 rfl (lv_at hl 0 rfl) ?_
  refine lv_if_gt (tgt := 20) hx hb dJx4a65c_grow_92f84_7 (by decide) (fun c7 => ?_) (fun c9 => absurd (by decide) c9)
  refine lv_iload_n hx hb dJx4a65c_grow_92f84_20 rfl (lv_at hl 0 rfl) ?_
  refine lv_iload_n hx hb dJx4a65c_grow_92f84_21 rfl (lv_at hl 2 rfl) ?_
  refine lv_iload_n hx hb dJx4a65c_grow_92f84_22 rfl (lv_at hl 0 rfl) ?_
  refine lv_isub hx hb dJx4a65c_grow_92f84_23 ?_
  rw [show ((nI 11) - 10 : Int32) = 1 from by decide]
  refine lv_iload_n hx hb dJx4a65c_grow_92f84_24 rfl (lv_at hl 0 rfl) ?_
  refine lv_iconst (v := 1) hx hb dJx4a65c_grow_92f84_25 (by decide) ?_
  refine lv_ishr hx hb dJx4a65c_grow_92f84_26 ?_
  rw [show ((10 : Int32) >>> ((1 : Int32) &&& 31)) = 5 from by decide]
  refine m_cS 3 [.int 10, .int 1, .int 5] [] hx hb hml hown hts hK (c_newLength l E A g M) gJx4a65c_grow_92f84_J8_newLength_cabcc rfl rfl rfl (by decide +kernel) rfl ⟨Nat.le_of_ble_eq_true rfl, Nat.le_of_ble_eq_true rfl⟩ trivial hl.1 (Nat.le_of_ble_eq_true rfl) ⟨Nat.le_of_ble_eq_true rfl, Nat.le_of_ble_eq_true rfl⟩ rfl dJx4a65c_grow_92f84_27 ?_
  refine lv_istore_n (lv' := [(3, .int 15), (2, .int 10), (0, .ref (g tl)), (1, .int (nI 11))]) hx hb dJx4a65c_grow_92f84_30 rfl hl (by decide) rfl (fun ls hl => ?_)
  refine lv_aload_n hx hb dJx4a65c_grow_92f84_31 rfl (lv_at hl 2 rfl) ?_
  refine lv_aload_n hx hb dJx4a65c_grow_92f84_32 rfl (lv_at hl 2 rfl) ?_
  refine m_get hx hb hts in_Jx4a65c_grow_92f84_Jx4a65c hown hK hM h rfl 1 (by decide) (by decide +kernel) rfl dJx4a65c_grow_92f84_33 ?_
  refine lv_iload_n hx hb dJx4a65c_grow_92f84_36 rfl (lv_at hl 0 rfl) ?_
  refine m_rS 2 [.ref (g te), .int 15] [.ref (g tl)] hx hb hml hown hts hK (c_copyOf2 l E A g M te tn 10 15 ci r f h2 htn (by decide) (by decide) hc hr9 hel) gJx4a65c_grow_92f84_J7_copyOf_1904c rfl rfl rfl (by decide +kernel) rfl ⟨Nat.le_of_ble_eq_true rfl, Nat.le_of_ble_eq_true rfl⟩ ⟨hM, hA⟩ hl.1 (Nat.le_of_ble_eq_true rfl) ⟨Nat.le_of_ble_eq_true rfl, Nat.le_of_ble_eq_true rfl⟩ rfl dJx4a65c_grow_92f84_37 hZ (fun _ h => h) hS (fun _ _ h => h) (fun _ h => h) (fun q9 H locs hQ hz hk hS => ?_)
  refine W.eq (g2 := F0 m 40 ls [.ref q9, .ref (g tl)]) rfl ?_
  have hM := hQ
  refine lv_dup_x1 hx hb dJx4a65c_grow_92f84_40 rfl rfl ?_
  refine W.eq (g2 := F0 m 41 ls [.ref q9, .ref (gu1 g tn q9 tl), .ref q9]) (by rw [gu1_n htl]) ?_
  refine m_put hx hb hts in_Jx4a65c_grow_92f84_Jx4a65c tyJx4a65c tyJx4a65c_ok nmJx4a65c hown hK hM hS ((mu_n htl).trans h) rfl 1 (by decide) (by decide +kernel) rfl (tyJx4a65c_ok 1 (by decide)) rfl rfl (Nat.le_of_ble_eq_true rfl) dJx4a65c_grow_92f84_41 (fun H locs hM hz hS => ?_)
  exact w_r hx hb hr hlocks dJx4a65c_grow_92f84_44 hS (Nat.le_of_ble_eq_true rfl) (Nat.le_of_ble_eq_true rfl) (mP.swap hlt htl hte htn hM)
theorem in_Jx4a65c_grow_d5877_Jx4a65c : ∀ w ∈ u_ws RJx4a65c TJx4a65c 3, w ∈ wsJx4a65c_grow_d5877 := by decide +kernel
set_option maxHeartbeats 4000000 in
set_option maxRecDepth 100000 in
theorem c_grow0E (l : Launch) (E : gE) (A : Nat → Prop) (g : Nat → Nat) (M : gM) (tl te : Nat) (hlt : tl ≠ te) (xm : Int32) (h : M tl = some (.inr (0, [.int xm, .ref E.2.2.2.2, .int (nI 0)]))) (hn : M te = none) : Met l yJx4a65c_grow_d5877 wsJx4a65c_grow_d5877 ({ frames := 5, cells := 1, slots := 15, locals := 150 } : Room) (Pz E A [.ref (g tl)] (fun H => mP E A g M H ∧ ∀ q : Nat, H.size ≤ q → A q)) (QR (fun q H => mP E A (gu1 g te q) (mu (mu M te (.inl (E.2.2.2.1, 10, .inr (.inr (.inr (.inr (fun _ => none))))))) tl (.inr (0, [.int xm, .ref q, .int (nI 0)]))) H) A) 1 15 A := by
  refine z_entry (by decide) rfl (Nat.le_of_ble_eq_true rfl) ?_
  intro p e s m args below meth c hx hb hr hml hts hown hlocks hin hP hK hZ ls hl
  have hl : lv_has ls 1 [(0, .ref (g tl))] := hl
  have hown : s.vm.findClass RJx4a65c = some m.cls := hown
  have hS : va_S A s.heap s.heap [] := va_S.rf
  skip
  obtain ⟨hM, hA⟩ := hP
  refine lv_aload_n hx hb dJx4a65c_grow_d5877_0 rfl (lv_at hl 0 rfl) ?_
  refine lv_aload_n hx hb dJx4a65c_grow_d5877_1 rfl (lv_at hl 0 rfl) ?_
  refine m_get hx hb hts in_Jx4a65c_grow_d5877_Jx4a65c hown hK hM h rfl 2 (by decide) (by decide +kernel) rfl dJx4a65c_grow_d5877_2 ?_
  refine lv_iconst (v := 1) hx hb dJx4a65c_grow_d5877_5 (by decide) ?_
  refine lv_iadd hx hb dJx4a65c_grow_d5877_6 ?_
  rw [show ((nI 0) + 1 : Int32) = nI 1 from by decide]
  refine m_rV 1 [.int (nI 1)] [] hx hb hml hown hts hK (c_grow1E l E A g M tl te hlt xm h hn) gJx4a65c_grow_d5877_Jx4a65c_grow_92f84 rfl rfl rfl (by decide +kernel) rfl ⟨Nat.le_of_ble_eq_true rfl, Nat.le_of_ble_eq_true rfl⟩ hM h rfl rfl ⟨hM, hA⟩ hl.1 (Nat.le_of_ble_eq_true rfl) ⟨Nat.le_of_ble_eq_true rfl, Nat.le_of_ble_eq_true rfl⟩ rfl dJx4a65c_grow_d5877_7 hZ (fun _ h => h) hS (fun _ _ h => h) (fun _ h => h) (fun q9 H locs hQ hz hk hS => ?_)
  refine W.eq (g2 := F0 m 10 ls [.ref q9]) rfl ?_
  have hM := hQ
  exact w_r hx hb hr hlocks dJx4a65c_grow_d5877_10 hS (Nat.le_of_ble_eq_true rfl) (Nat.le_of_ble_eq_true rfl) (hM)
set_option maxHeartbeats 4000000 in
set_option maxRecDepth 100000 in
theorem c_grow0F (l : Launch) (E : gE) (A : Nat → Prop) (g : Nat → Nat) (M : gM) (tl te tn : Nat) (hlt : tl ≠ te) (htn : M tn = none) (xm : Int32) (ci : Nat) (r : vw_C) (f : Nat → Option Nat) (hc : vwCl[ci]? = some r) (hr9 : r.1 ∈ [RX0, RX1, RX2]) (h : M tl = some (.inr (0, [.int xm, .ref (g te), .int (nI 10)]))) (h2 : M te = some (.inl (E.2.2.2.1, 10, .inr (.inr (.inr (.inr (f))))))) (hel : ∀ i, i < 10 → ∀ y, f i = some y → ∃ (tv : Nat) (vs : List Value), M tv = some (.inr (ci, vs)) ∧ y = g tv) : Met l yJx4a65c_grow_d5877 wsJx4a65c_grow_d5877 ({ frames := 5, cells := 1, slots := 15, locals := 150 } : Room) (Pz E A [.ref (g tl)] (fun H => mP E A g M H ∧ ∀ q : Nat, H.size ≤ q → A q)) (QR (fun q H => mP E A (gu1 g te q) (mu (mu M te (.inl (E.2.2.2.1, 15, .inr (.inr (.inr (.inr (va_cpy f (fun _ => none) 0 0 10))))))) tl (.inr (0, [.int xm, .ref q, .int (nI 10)]))) H) A) 1 15 A := by
  refine z_entry (by decide) rfl (Nat.le_of_ble_eq_true rfl) ?_
  intro p e s m args below meth c hx hb hr hml hts hown hlocks hin hP hK hZ ls hl
  have hl : lv_has ls 1 [(0, .ref (g tl))] := hl
  have hown : s.vm.findClass RJx4a65c = some m.cls := hown
  have hS : va_S A s.heap s.heap [] := va_S.rf
  skip
  obtain ⟨hM, hA⟩ := hP
  refine lv_aload_n hx hb dJx4a65c_grow_d5877_0 rfl (lv_at hl 0 rfl) ?_
  refine lv_aload_n hx hb dJx4a65c_grow_d5877_1 rfl (lv_at hl 0 rfl) ?_
  refine m_get hx hb hts in_Jx4a65c_grow_d5877_Jx4a65c hown hK hM h rfl 2 (by decide) (by decide +kernel) rfl dJx4a65c_grow_d5877_2 ?_
  refine lv_iconst (v := 1) hx hb dJx4a65c_grow_d5877_5 (by decide) ?_
  refine lv_iadd hx hb dJx4a65c_grow_d5877_6 ?_
  rw [show ((nI 10) + 1 : Int32) = nI 11 from by decide]
  refine m_rV 1 [.int (nI 11)] [] hx hb hml hown hts hK (c_grow1F l E A g M tl te tn hlt htn xm ci r f hc hr9 h h2 hel) gJx4a65c_grow_d5877_Jx4a65c_grow_92f84 rfl rfl rfl (by decide +kernel) rfl ⟨Nat.le_of_ble_eq_true rfl, Nat.le_of_ble_eq_true rfl⟩ hM h rfl rfl ⟨hM, hA⟩ hl.1 (Nat.le_of_ble_eq_true rfl) ⟨Nat.le_of_ble_eq_true rfl, Nat.le_of_ble_eq_true rfl⟩ rfl dJx4a65c_grow_d5877_7 hZ (fun _ h => h) hS (fun _ _ h => h) (fun _ h => h) (fun q9 H locs hQ hz hk hS => ?_)
  refine W.eq (g2 := F0 m 10 ls [.ref q9]) rfl ?_
  have hM := hQ
  exact w_r hx hb hr hlocks dJx4a65c_grow_d5877_10 hS (Nat.le_of_ble_eq_true rfl) (Nat.le_of_ble_eq_true rfl) (hM)
theorem lw_grown {E : gE} {g : Nat → Nat} {M : gM} {tl te base n cap : Nat} {xm : Int32} {f : Nat → Option Nat} (hlt : tl ≠ te) (hn : n < cap) (hcap : cap = if n + 1 ≤ 10 then 10 else 15) (hf : ∀ i, i < n → f i = some (g (base + i))) : LW E g (mu (mu M te (.inl (E.2.2.2.1, cap, .inr (.inr (.inr (.inr (va_up f (nI n).toNatClampNeg (some (g (base + n)))))))))) tl (.inr (0, [.int xm, .ref (g te), .int (nI (n + 1))]))) tl te base (n + 1) := by
  have h31 : n < 2 ^ 31 := by
    have : cap ≤ 15 := by rw [hcap]; split <;> omega
    omega
  refine ⟨xm, g te, mu_s, fun h => absurd h (Nat.succ_ne_zero n), fun _ => ⟨rfl, _, by rw [mu_n (Ne.symm hlt), mu_s, ← hcap], fun i hi => ?_⟩⟩
  rw [nI_clamp h31]
  show (if i = n then _ else _) = _
  by_cases q : i = n
  · subst q; rw [if_pos rfl]
  · rw [if_neg q]; exact hf i (by omega)
theorem in_Jx4a65c_add_72be8_Jx4a65c : ∀ w ∈ u_ws RJx4a65c TJx4a65c 3, w ∈ wsJx4a65c_add_72be8 := by decide +kernel
set_option maxHeartbeats 4000000 in
set_option maxRecDepth 100000 in
theorem c_add3E (l : Launch) (E : gE) (A : Nat → Prop) (g : Nat → Nat) (M : gM) (tl te : Nat) (hlt : tl ≠ te) (xm : Int32) (h : M tl = some (.inr (0, [.int xm, .ref E.2.2.2.2, .int (nI 0)]))) (hn : M te = none) (tv ci : Nat) (r : vw_C) (vs : List Value) (hv9 : M tv = some (.inr (ci, vs))) (hvl : tv ≠ tl) (hve : tv ≠ te) (hc : vwCl[ci]? = some r) (hr9 : r.1 ∈ [RX0, RX1, RX2]) (base : Nat) (htv : tv = base + 0) : Met l yJx4a65c_add_72be8 wsJx4a65c_add_72be8 ({ frames := 6, cells := 1, slots := 15, locals := 180 } : Room) (Pz E A [.ref (g tl), .ref (g tv), .ref E.2.2.2.2, .int (nI 0)] (fun H => mP E A g M H ∧ ∀ q : Nat, H.size ≤ q → A q)) (QW none (fun H => ∃ (g' : Nat → Nat) (M' : gM), (∀ u, u ≠ te → g' u = g u) ∧ (∀ u, u ≠ tl → u ≠ te → M' u = M u) ∧ mP E A g' M' H ∧ LW E g' M' tl te base (0 + 1)) A) 1 15 A := by
  refine z_entry (by decide) rfl (Nat.le_of_ble_eq_true rfl) ?_
  intro p e s m args below meth c hx hb hr hml hts hown hlocks hin hP hK hZ ls hl
  have hl : lv_has ls 4 [(0, .ref (g tl)), (1, .ref (g tv)), (2, .ref E.2.2.2.2), (3, .int (nI 0))] := hl
  have hown : s.vm.findClass RJx4a65c = some m.cls := hown
  have hS : va_S A s.heap s.heap [] := va_S.rf
  skip
  obtain ⟨hM, hA⟩ := hP
  refine lv_iload_n hx hb dJx4a65c_add_72be8_0 rfl (lv_at hl 3 rfl) ?_
  refine lv_aload_n hx hb dJx4a65c_add_72be8_1 rfl (lv_at hl 2 rfl) ?_
  refine va_tlen (v := nI 0) hx hb hZ.2.2.1 hS rfl dJx4a65c_add_72be8_2 ?_
  refine lv_icmp_ne (tgt := 11) hx hb dJx4a65c_add_72be8_3 (by decide) (fun c9 => absurd rfl c9) (fun c3 => ?_)
  refine lv_aload_n hx hb dJx4a65c_add_72be8_6 rfl (lv_at hl 0 rfl) ?_
  refine m_rV 0 [] [] hx hb hml hown hts hK (c_grow0E l E A g M tl te hlt xm h hn) gJx4a65c_add_72be8_Jx4a65c_grow_d5877 rfl rfl rfl (by decide +kernel) rfl ⟨Nat.le_of_ble_eq_true rfl, Nat.le_of_ble_eq_true rfl⟩ hM h rfl rfl ⟨hM, hA⟩ hl.1 (Nat.le_of_ble_eq_true rfl) ⟨Nat.le_of_ble_eq_true rfl, Nat.le_of_ble_eq_true rfl⟩ rfl dJx4a65c_add_72be8_7 hZ (fun _ h => h) hS (fun _ _ h => h) (fun _ h => h) (fun q9 H locs hQ hz hk hS => ?_)
  refine W.eq (g2 := F0 m 10 ls [.ref q9]) rfl ?_
  have hM := hQ
  refine lv_astore_n (lv' := [(2, .ref q9), (0, .ref (g tl)), (1, .ref (g tv)), (3, .int (nI 0))]) hx hb dJx4a65c_add_72be8_10 rfl hl (by decide) rfl (fun ls hl => ?_)
  obtain ⟨g1, hgq⟩ : ∃ g1, g1 = gu1 g te q9 := ⟨_, rfl⟩
  rw [← hgq] at hM
  have hg1 : ∀ u, u ≠ te → g1 u = g u := fun u hu => by rw [hgq, gu1_n hu]
  have hgq9 : g1 te = q9 := by rw [hgq, gu1_s]
  rw [← hgq9] at hM hl
  obtain ⟨M1, hq1⟩ : ∃ M1, M1 = mu (mu M te (.inl (E.2.2.2.1, 10, .inr (.inr (.inr (.inr (fun _ => none))))))) tl (.inr (0, [.int xm, .ref (g1 te), .int (nI 0)])) := ⟨_, rfl⟩
  rw [← hq1] at hM
  have hM1 : ∀ u, u ≠ tl → u ≠ te → M1 u = M u := fun u h1 h2 => by rw [hq1, mu_n h1, mu_n h2]
  have ht1 : M1 tl = some (.inr (0, [.int xm, .ref (g1 te), .int (nI 0)])) := by rw [hq1, mu_s]
  have ht2 : M1 te = some (.inl (E.2.2.2.1, 10, .inr (.inr (.inr (.inr (fun _ => none)))))) := by rw [hq1, mu_n (Ne.symm hlt), mu_s]
  have ht3 : M1 tv = some (.inr (ci, vs)) := by rw [hM1 tv hvl hve]; exact hv9
  have hcn : 0 < 10 := by decide
  have hcap : 10 = if 0 + 1 ≤ 10 then 10 else 15 := by decide
  have hf1 : ∀ i, i < 0 → (fun _ => none : Nat → Option Nat) i = some (g1 (base + i)) := fun i hi => absurd hi (Nat.not_lt_zero i)
  have hl : lv_has ls 4 [(2, .ref (g1 te)), (3, .int (nI 0)), (0, .ref (g1 tl)), (1, .ref (g1 tv))] := by have h9 := lv_sub hl [0, 3, 1, 2] rfl; rw [hg1 tl hlt, hg1 tv hve]; exact h9
  refine lv_aload_n hx hb dJx4a65c_add_72be8_11 rfl (lv_at hl 0 rfl) ?_
  refine lv_iload_n hx hb dJx4a65c_add_72be8_12 rfl (lv_at hl 1 rfl) ?_
  refine lv_aload_n hx hb dJx4a65c_add_72be8_13 rfl (lv_at hl 3 rfl) ?_
  refine m_astO (t := te) (tv := tv) hx hb hK hM hS ht2 ht3 hc (hZ.1.2.2.2.1 r.1 hr9) (ix_ok ⟨hcn, by omega⟩) dJx4a65c_add_72be8_14 (fun H locs hM hz hS => ?_)
  refine lv_aload_n hx hb dJx4a65c_add_72be8_15 rfl (lv_at hl 2 rfl) ?_
  refine lv_iload_n hx hb dJx4a65c_add_72be8_16 rfl (lv_at hl 1 rfl) ?_
  refine lv_iconst (v := 1) hx hb dJx4a65c_add_72be8_17 (by decide) ?_
  refine lv_iadd hx hb dJx4a65c_add_72be8_18 ?_
  rw [show ((nI 0) + 1 : Int32) = nI (0 + 1) from nI_1 0]
  refine m_put hx hb hts in_Jx4a65c_add_72be8_Jx4a65c tyJx4a65c tyJx4a65c_ok nmJx4a65c hown hK hM hS ((mu_n hlt).trans ht1) rfl 2 (by decide) (by decide +kernel) rfl (tyJx4a65c_ok 2 (by decide)) rfl rfl (Nat.le_of_ble_eq_true rfl) dJx4a65c_add_72be8_19 (fun H locs hM hz hS => ?_)
  exact w_v hx hb hr hlocks dJx4a65c_add_72be8_22 hS (Nat.le_of_ble_eq_true rfl) (Nat.le_of_ble_eq_true rfl) (⟨g1, _, hg1, fun u q1 q2 => (mu_n q1).trans ((mu_n q2).trans (hM1 u q1 q2)), hM, by subst htv; exact lw_grown hlt hcn hcap hf1⟩)
set_option maxHeartbeats 4000000 in
set_option maxRecDepth 100000 in
theorem c_add3F (l : Launch) (E : gE) (A : Nat → Prop) (g : Nat → Nat) (M : gM) (tl te tn : Nat) (hlt : tl ≠ te) (htn : M tn = none) (xm : Int32) (ci : Nat) (r : vw_C) (f : Nat → Option Nat) (hc : vwCl[ci]? = some r) (hr9 : r.1 ∈ [RX0, RX1, RX2]) (h : M tl = some (.inr (0, [.int xm, .ref (g te), .int (nI 10)]))) (h2 : M te = some (.inl (E.2.2.2.1, 10, .inr (.inr (.inr (.inr (f))))))) (hel : ∀ i, i < 10 → ∀ y, f i = some y → ∃ (tv : Nat) (vs : List Value), M tv = some (.inr (ci, vs)) ∧ y = g tv) (base : Nat) (hf : ∀ i, i < 10 → f i = some (g (base + i))) (hbe : ∀ i, i < 10 → base + i ≠ te) (tv : Nat) (vs : List Value) (hv9 : M tv = some (.inr (ci, vs))) (hvl : tv ≠ tl) (hve : tv ≠ te) (htv : tv = base + 10) : Met l yJx4a65c_add_72be8 wsJx4a65c_add_72be8 ({ frames := 6, cells := 1, slots := 15, locals := 180 } : Room) (Pz E A [.ref (g tl), .ref (g tv), .ref (g te), .int (nI 10)] (fun H => mP E A g M H ∧ ∀ q : Nat, H.size ≤ q → A q)) (QW none (fun H => ∃ (g' : Nat → Nat) (M' : gM), (∀ u, u ≠ te → g' u = g u) ∧ (∀ u, u ≠ tl → u ≠ te → M' u = M u) ∧ mP E A g' M' H ∧ LW E g' M' tl te base (10 + 1)) A) 1 15 A := by
  refine z_entry (by decide) rfl (Nat.le_of_ble_eq_true rfl) ?_
  intro p e s m args below meth c hx hb hr hml hts hown hlocks hin hP hK hZ ls hl
  have hl : lv_has ls 4 [(0, .ref (g tl)), (1, .ref (g tv)), (2, .ref (g te)), (3, .int (nI 10))] := hl
  have hown : s.vm.findClass RJx4a65c = some m.cls := hown
  have hS : va_S A s.heap s.heap [] := va_S.rf
  skip
  obtain ⟨hM, hA⟩ := hP
  refine lv_iload_n hx hb dJx4a65c_add_72be8_0 rfl (lv_at hl 3 rfl) ?_
  refine lv_aload_n hx hb dJx4a65c_add_72be8_1 rfl (lv_at hl 2 rfl) ?_
  refine m_alenO (v := nI 10) hx hb hK hM h2 rfl dJx4a65c_add_72be8_2 ?_
  refine lv_icmp_ne (tgt := 11) hx hb dJx4a65c_add_72be8_3 (by decide) (fun c9 => absurd rfl c9) (fun c3 => ?_)
  refine lv_aload_n hx hb dJx4a65c_add_72be8_6 rfl (lv_at hl 0 rfl) ?_
  refine m_rV 0 [] [] hx hb hml hown hts hK (c_grow0F l E A g M tl te tn hlt htn xm ci r f hc hr9 h h2 hel) gJx4a65c_add_72be8_Jx4a65c_grow_d5877 rfl rfl rfl (by decide +kernel) rfl ⟨Nat.le_of_ble_eq_true rfl, Nat.le_of_ble_eq_true rfl⟩ hM h rfl rfl ⟨hM, hA⟩ hl.1 (Nat.le_of_ble_eq_true rfl) ⟨Nat.le_of_ble_eq_true rfl, Nat.le_of_ble_eq_true rfl⟩ rfl dJx4a65c_add_72be8_7 hZ (fun _ h => h) hS (fun _ _ h => h) (fun _ h => h) (fun q9 H locs hQ hz hk hS => ?_)
  refine W.eq (g2 := F0 m 10 ls [.ref q9]) rfl ?_
  have hM := hQ
  refine lv_astore_n (lv' := [(2, .ref q9), (0, .ref (g tl)), (1, .ref (g tv)), (3, .int (nI 10))]) hx hb dJx4a65c_add_72be8_10 rfl hl (by decide) rfl (fun ls hl => ?_)
  obtain ⟨g1, hgq⟩ : ∃ g1, g1 = gu1 g te q9 := ⟨_, rfl⟩
  rw [← hgq] at hM
  have hg1 : ∀ u, u ≠ te → g1 u = g u := fun u hu => by rw [hgq, gu1_n hu]
  have hgq9 : g1 te = q9 := by rw [hgq, gu1_s]
  rw [← hgq9] at hM hl
  obtain ⟨M1, hq1⟩ : ∃ M1, M1 = mu (mu M te (.inl (E.2.2.2.1, 15, .inr (.inr (.inr (.inr (va_cpy f (fun _ => none) 0 0 10))))))) tl (.inr (0, [.int xm, .ref (g1 te), .int (nI 10)])) := ⟨_, rfl⟩
  rw [← hq1] at hM
  have hM1 : ∀ u, u ≠ tl → u ≠ te → M1 u = M u := fun u h1 h2 => by rw [hq1, mu_n h1, mu_n h2]
  have ht1 : M1 tl = some (.inr (0, [.int xm, .ref (g1 te), .int (nI 10)])) := by rw [hq1, mu_s]
  have ht2 : M1 te = some (.inl (E.2.2.2.1, 15, .inr (.inr (.inr (.inr (va_cpy f (fun _ => none) 0 0 10)))))) := by rw [hq1, mu_n (Ne.symm hlt), mu_s]
  have ht3 : M1 tv = some (.inr (ci, vs)) := by rw [hM1 tv hvl hve]; exact hv9
  have hcn : 10 < 15 := by decide
  have hcap : 15 = if 10 + 1 ≤ 10 then 10 else 15 := by decide
  have hf1 : ∀ i, i < 10 → va_cpy f (fun _ => none) 0 0 10 i = some (g1 (base + i)) := fun i hi => by rw [pk_cpy_in (Nat.zero_le _) (by omega), hg1 _ (hbe i (by omega)), show 0 + (i - 0) = i by omega]; exact hf i (by omega)
  have hl : lv_has ls 4 [(2, .ref (g1 te)), (3, .int (nI 10)), (0, .ref (g1 tl)), (1, .ref (g1 tv))] := by have h9 := lv_sub hl [0, 3, 1, 2] rfl; rw [hg1 tl hlt, hg1 tv hve]; exact h9
  refine lv_aload_n hx hb dJx4a65c_add_72be8_11 rfl (lv_at hl 0 rfl) ?_
  refine lv_iload_n hx hb dJx4a65c_add_72be8_12 rfl (lv_at hl 1 rfl) ?_
  refine lv_aload_n hx hb dJx4a65c_add_72be8_13 rfl (lv_at hl 3 rfl) ?_
  refine m_astO (t := te) (tv := tv) hx hb hK hM hS ht2 ht3 hc (hZ.1.2.2.2.1 r.1 hr9) (ix_ok ⟨hcn, by omega⟩) dJx4a65c_add_72be8_14 (fun H locs hM hz hS => ?_)
  refine lv_aload_n hx hb dJx4a65c_add_72be8_15 rfl (lv_at hl 2 rfl) ?_
  refine lv_iload_n hx hb dJx4a65c_add_72be8_16 rfl (lv_at hl 1 rfl) ?_
  refine lv_iconst (v := 1) hx hb dJx4a65c_add_72be8_17 (by decide) ?_
  refine lv_iadd hx hb dJx4a65c_add_72be8_18 ?_
  rw [show ((nI 10) + 1 : Int32) = nI (10 + 1) from nI_1 10]
  refine m_put hx hb hts in_Jx4a65c_add_72be8_Jx4a65c tyJx4a65c tyJx4a65c_ok nmJx4a65c hown hK hM hS ((mu_n hlt).trans ht1) rfl 2 (by decide) (by decide +kernel) rfl (tyJx4a65c_ok 2 (by decide)) rfl rfl (Nat.le_of_ble_eq_true rfl) dJx4a65c_add_72be8_19 (fun H locs hM hz hS => ?_)
  exact w_v hx hb hr hlocks dJx4a65c_add_72be8_22 hS (Nat.le_of_ble_eq_true rfl) (Nat.le_of_ble_eq_true rfl) (⟨g1, _, hg1, fun u q1 q2 => (mu_n q1).trans ((mu_n q2).trans (hM1 u q1 q2)), hM, by subst htv; exact lw_grown hlt hcn hcap hf1⟩)
set_option maxHeartbeats 4000000 in
set_option maxRecDepth 100000 in
theorem c_add3N (l : Launch) (E : gE) (A : Nat → Prop) (g : Nat → Nat) (M : gM) (tl te : Nat) (hlt : tl ≠ te) (xm : Int32) (n cap : Nat) (f : Nat → Option Nat) (ht1 : M tl = some (.inr (0, [.int xm, .ref (g te), .int (nI n)]))) (ht2 : M te = some (.inl (E.2.2.2.1, cap, .inr (.inr (.inr (.inr (f))))))) (hcn : n < cap) (hcap : cap = if n + 1 ≤ 10 then 10 else 15) (tv ci : Nat) (r : vw_C) (vs : List Value) (ht3 : M tv = some (.inr (ci, vs))) (hvl : tv ≠ tl) (hve : tv ≠ te) (hc : vwCl[ci]? = some r) (hr9 : r.1 ∈ [RX0, RX1, RX2]) (base : Nat) (htv : tv = base + n) (hf1 : ∀ i, i < n → f i = some (g (base + i))) : Met l yJx4a65c_add_72be8 wsJx4a65c_add_72be8 ({ frames := 6, cells := 1, slots := 15, locals := 180 } : Room) (Pz E A [.ref (g tl), .ref (g tv), .ref (g te), .int (nI n)] (fun H => mP E A g M H ∧ ∀ q : Nat, H.size ≤ q → A q)) (QW none (fun H => ∃ (g' : Nat → Nat) (M' : gM), (∀ u, u ≠ te → g' u = g u) ∧ (∀ u, u ≠ tl → u ≠ te → M' u = M u) ∧ mP E A g' M' H ∧ LW E g' M' tl te base (n + 1)) A) 1 15 A := by
  refine z_entry (by decide) rfl (Nat.le_of_ble_eq_true rfl) ?_
  intro p e s m args below meth c hx hb hr hml hts hown hlocks hin hP hK hZ ls hl
  have hl : lv_has ls 4 [(0, .ref (g tl)), (1, .ref (g tv)), (2, .ref (g te)), (3, .int (nI n))] := hl
  have hown : s.vm.findClass RJx4a65c = some m.cls := hown
  have hS : va_S A s.heap s.heap [] := va_S.rf
  skip
  obtain ⟨hM, hA⟩ := hP
  have hcap2 : cap ≤ 15 := by rw [hcap]; split <;> omega
  refine lv_iload_n hx hb dJx4a65c_add_72be8_0 rfl (lv_at hl 3 rfl) ?_
  refine lv_aload_n hx hb dJx4a65c_add_72be8_1 rfl (lv_at hl 2 rfl) ?_
  refine m_alenO (v := nI cap) hx hb hK hM ht2 rfl dJx4a65c_add_72be8_2 ?_
  refine lv_icmp_ne (tgt := 11) hx hb dJx4a65c_add_72be8_3 (by decide) (fun c3 => ?_) (fun c9 => absurd c9 (fun e9 => by have := (nI_eq (by omega) (by omega)).mp e9; omega))
  obtain ⟨g1, hgq⟩ : ∃ g1, g1 = g := ⟨_, rfl⟩
  rw [← hgq] at hM hl ht1 hf1
  have hg1 : ∀ u, u ≠ te → g1 u = g u := fun u hu => by rw [hgq]
  have hM1 : ∀ u, u ≠ tl → u ≠ te → M u = M u := fun u h1 h2 => rfl
  have hl : lv_has ls 4 [(2, .ref (g1 te)), (3, .int (nI n)), (0, .ref (g1 tl)), (1, .ref (g1 tv))] := by have h9 := lv_sub hl [2, 3, 0, 1] rfl; exact h9
  refine lv_aload_n hx hb dJx4a65c_add_72be8_11 rfl (lv_at hl 0 rfl) ?_
  refine lv_iload_n hx hb dJx4a65c_add_72be8_12 rfl (lv_at hl 1 rfl) ?_
  refine lv_aload_n hx hb dJx4a65c_add_72be8_13 rfl (lv_at hl 3 rfl) ?_
  refine m_astO (t := te) (tv := tv) hx hb hK hM hS ht2 ht3 hc (hZ.1.2.2.2.1 r.1 hr9) (ix_ok ⟨hcn, by omega⟩) dJx4a65c_add_72be8_14 (fun H locs hM hz hS => ?_)
  refine lv_aload_n hx hb dJx4a65c_add_72be8_15 rfl (lv_at hl 2 rfl) ?_
  refine lv_iload_n hx hb dJx4a65c_add_72be8_16 rfl (lv_at hl 1 rfl) ?_
  refine lv_iconst (v := 1) hx hb dJx4a65c_add_72be8_17 (by decide) ?_
  refine lv_iadd hx hb dJx4a65c_add_72be8_18 ?_
  rw [show ((nI n) + 1 : Int32) = nI (n + 1) from nI_1 n]
  refine m_put hx hb hts in_Jx4a65c_add_72be8_Jx4a65c tyJx4a65c tyJx4a65c_ok nmJx4a65c hown hK hM hS ((mu_n hlt).trans ht1) rfl 2 (by decide) (by decide +kernel) rfl (tyJx4a65c_ok 2 (by decide)) rfl rfl (Nat.le_of_ble_eq_true rfl) dJx4a65c_add_72be8_19 (fun H locs hM hz hS => ?_)
  exact w_v hx hb hr hlocks dJx4a65c_add_72be8_22 hS (Nat.le_of_ble_eq_true rfl) (Nat.le_of_ble_eq_true rfl) (⟨g1, _, hg1, fun u q1 q2 => (mu_n q1).trans ((mu_n q2).trans (hM1 u q1 q2)), hM, by subst htv; exact lw_grown hlt hcn hcap hf1⟩)
theorem in_Jx4a65c_add_9ea2d_Jx4a65c : ∀ w ∈ u_ws RJx4a65c TJx4a65c 3, w ∈ wsJx4a65c_add_9ea2d := by decide +kernel
set_option maxHeartbeats 4000000 in
set_option maxRecDepth 100000 in
theorem c_add1E (l : Launch) (E : gE) (A : Nat → Prop) (g : Nat → Nat) (M : gM) (tl te : Nat) (hlt : tl ≠ te) (xm : Int32) (h : M tl = some (.inr (0, [.int xm, .ref E.2.2.2.2, .int (nI 0)]))) (hn : M te = none) (tv ci : Nat) (r : vw_C) (vs : List Value) (hv9 : M tv = some (.inr (ci, vs))) (hvl : tv ≠ tl) (hve : tv ≠ te) (hc : vwCl[ci]? = some r) (hr9 : r.1 ∈ [RX0, RX1, RX2]) (base : Nat) (htv : tv = base + 0) : Met l yJx4a65c_add_9ea2d wsJx4a65c_add_9ea2d ({ frames := 7, cells := 1, slots := 15, locals := 220 } : Room) (Pz E A [.ref (g tl), .ref (g tv)] (fun H => mP E A g M H ∧ ∀ q : Nat, H.size ≤ q → A q)) (QW (some (.int (bI true))) (fun H => ∃ (g' : Nat → Nat) (M' : gM), (∀ u, u ≠ te → g' u = g u) ∧ (∀ u, u ≠ tl → u ≠ te → M' u = M u) ∧ mP E A g' M' H ∧ LW E g' M' tl te base (0 + 1)) A) 1 15 A := by
  refine z_entry (by decide) rfl (Nat.le_of_ble_eq_true rfl) ?_
  intro p e s m args below meth c hx hb hr hml hts hown hlocks hin hP hK hZ ls hl
  have hl : lv_has ls 2 [(0, .ref (g tl)), (1, .ref (g tv))] := hl
  have hown : s.vm.findClass RJx4a65c = some m.cls := hown
  have hS : va_S A s.heap s.heap [] := va_S.rf
  skip
  obtain ⟨hM, hA⟩ := hP
  refine lv_aload_n hx hb dJx4a65c_add_9ea2d_0 rfl (lv_at hl 0 rfl) ?_
  refine lv_dup hx hb dJx4a65c_add_9ea2d_1 rfl ?_
  refine m_getU (ref := "java/util/ArrayList") hx hb hts in_Jx4a65c_add_9ea2d_Jx4a65c hown hK hM h rfl 0 (by decide) (by decide +kernel) (u_same (hts (.sameField "java/util/ArrayList" "java/util/AbstractList" "modCount" "I") (by decide +kernel))) rfl dJx4a65c_add_9ea2d_2 ?_
  refine lv_iconst (v := 1) hx hb dJx4a65c_add_9ea2d_5 (by decide) ?_
  refine lv_iadd hx hb dJx4a65c_add_9ea2d_6 ?_
  refine m_putU (ref := "java/util/ArrayList") hx hb hts in_Jx4a65c_add_9ea2d_Jx4a65c tyJx4a65c tyJx4a65c_ok nmJx4a65c hown hK hM hS h rfl 0 (by decide) (by decide +kernel) (u_same (hts (.sameField "java/util/ArrayList" "java/util/AbstractList" "modCount" "I") (by decide +kernel))) rfl (tyJx4a65c_ok 0 (by decide)) rfl rfl (Nat.le_of_ble_eq_true rfl) dJx4a65c_add_9ea2d_7 (fun H locs hM hz hS => ?_)
  have hM : mP E A g (mu M tl (.inr (0, [.int (xm + 1), .ref E.2.2.2.2, .int (nI 0)]))) H := hM
  have hA := fun (q : Nat) (h9 : H.size ≤ q) => hA q (by omega)
  refine lv_aload_n hx hb dJx4a65c_add_9ea2d_10 rfl (lv_at hl 0 rfl) ?_
  refine lv_aload_n hx hb dJx4a65c_add_9ea2d_11 rfl (lv_at hl 1 rfl) ?_
  refine lv_aload_n hx hb dJx4a65c_add_9ea2d_12 rfl (lv_at hl 0 rfl) ?_
  refine m_get hx hb hts in_Jx4a65c_add_9ea2d_Jx4a65c hown hK hM mu_s rfl 1 (by decide) (by decide +kernel) rfl dJx4a65c_add_9ea2d_13 ?_
  refine lv_aload_n hx hb dJx4a65c_add_9ea2d_16 rfl (lv_at hl 0 rfl) ?_
  refine m_get hx hb hts in_Jx4a65c_add_9ea2d_Jx4a65c hown hK hM mu_s rfl 2 (by decide) (by decide +kernel) rfl dJx4a65c_add_9ea2d_17 ?_
  refine m_zV 3 [.ref (g tv), .ref E.2.2.2.2, .int (nI 0)] [] hx hb hml hown hts hK (c_add3E l E A g (mu M tl (.inr (0, [.int (xm + 1), .ref E.2.2.2.2, .int (nI 0)]))) tl te hlt (xm + 1) mu_s ((mu_n (Ne.symm hlt)).trans hn) tv ci r vs ((mu_n hvl).trans hv9) hvl hve hc hr9 base htv) gJx4a65c_add_9ea2d_Jx4a65c_add_72be8 rfl rfl rfl (by decide +kernel) rfl ⟨Nat.le_of_ble_eq_true rfl, Nat.le_of_ble_eq_true rfl⟩ hM mu_s rfl rfl ⟨hM, hA⟩ hl.1 (Nat.le_of_ble_eq_true rfl) ⟨Nat.le_of_ble_eq_true rfl, Nat.le_of_ble_eq_true rfl⟩ rfl dJx4a65c_add_9ea2d_20 hZ (fun _ h => h) hS (fun _ _ h => h) (fun _ h => h) (fun H locs hQ hz hk hS => ?_)
  refine W.eq (g2 := F0 m 23 ls []) rfl ?_
  obtain ⟨g1, M1, hg1, hM1, hM, hL1⟩ := hQ
  refine lv_iconst (v := 1) hx hb dJx4a65c_add_9ea2d_23 (by decide) ?_
  exact w_z hx hb hr hlocks dJx4a65c_add_9ea2d_24 hS (Nat.le_of_ble_eq_true rfl) (Nat.le_of_ble_eq_true rfl) (rfl) (⟨g1, M1, hg1, fun u q1 q2 => (hM1 u q1 q2).trans (mu_n q1), hM, hL1⟩)
set_option maxHeartbeats 4000000 in
set_option maxRecDepth 100000 in
theorem c_add1F (l : Launch) (E : gE) (A : Nat → Prop) (g : Nat → Nat) (M : gM) (tl te tn base : Nat) (hlt : tl ≠ te) (htn : M tn = none) (xm : Int32) (ci : Nat) (r : vw_C) (f : Nat → Option Nat) (hc : vwCl[ci]? = some r) (hr9 : r.1 ∈ [RX0, RX1, RX2]) (h : M tl = some (.inr (0, [.int xm, .ref (g te), .int (nI 10)]))) (h2 : M te = some (.inl (E.2.2.2.1, 10, .inr (.inr (.inr (.inr (f))))))) (hob : ∀ i, i < 10 → ∃ vs : List Value, M (base + i) = some (.inr (ci, vs))) (hbl : ∀ i, i < 10 → base + i ≠ tl) (hf : ∀ i, i < 10 → f i = some (g (base + i))) (hbe : ∀ i, i < 10 → base + i ≠ te) (tv : Nat) (vs : List Value) (hv9 : M tv = some (.inr (ci, vs))) (hvl : tv ≠ tl) (hve : tv ≠ te) (htv : tv = base + 10) : Met l yJx4a65c_add_9ea2d wsJx4a65c_add_9ea2d ({ frames := 7, cells := 1, slots := 15, locals := 220 } : Room) (Pz E A [.ref (g tl), .ref (g tv)] (fun H => mP E A g M H ∧ ∀ q : Nat, H.size ≤ q → A q)) (QW (some (.int (bI true))) (fun H => ∃ (g' : Nat → Nat) (M' : gM), (∀ u, u ≠ te → g' u = g u) ∧ (∀ u, u ≠ tl → u ≠ te → M' u = M u) ∧ mP E A g' M' H ∧ LW E g' M' tl te base (10 + 1)) A) 1 15 A := by
  refine z_entry (by decide) rfl (Nat.le_of_ble_eq_true rfl) ?_
  intro p e s m args below meth c hx hb hr hml hts hown hlocks hin hP hK hZ ls hl
  have hl : lv_has ls 2 [(0, .ref (g tl)), (1, .ref (g tv))] := hl
  have hown : s.vm.findClass RJx4a65c = some m.cls := hown
  have hS : va_S A s.heap s.heap [] := va_S.rf
  skip
  obtain ⟨hM, hA⟩ := hP
  have htl : tn ≠ tl := fun e9 => by rw [← e9, htn] at h; cases h
  refine lv_aload_n hx hb dJx4a65c_add_9ea2d_0 rfl (lv_at hl 0 rfl) ?_
  refine lv_dup hx hb dJx4a65c_add_9ea2d_1 rfl ?_
  refine m_getU (ref := "java/util/ArrayList") hx hb hts in_Jx4a65c_add_9ea2d_Jx4a65c hown hK hM h rfl 0 (by decide) (by decide +kernel) (u_same (hts (.sameField "java/util/ArrayList" "java/util/AbstractList" "modCount" "I") (by decide +kernel))) rfl dJx4a65c_add_9ea2d_2 ?_
  refine lv_iconst (v := 1) hx hb dJx4a65c_add_9ea2d_5 (by decide) ?_
  refine lv_iadd hx hb dJx4a65c_add_9ea2d_6 ?_
  refine m_putU (ref := "java/util/ArrayList") hx hb hts in_Jx4a65c_add_9ea2d_Jx4a65c tyJx4a65c tyJx4a65c_ok nmJx4a65c hown hK hM hS h rfl 0 (by decide) (by decide +kernel) (u_same (hts (.sameField "java/util/ArrayList" "java/util/AbstractList" "modCount" "I") (by decide +kernel))) rfl (tyJx4a65c_ok 0 (by decide)) rfl rfl (Nat.le_of_ble_eq_true rfl) dJx4a65c_add_9ea2d_7 (fun H locs hM hz hS => ?_)
  have hM : mP E A g (mu M tl (.inr (0, [.int (xm + 1), .ref (g te), .int (nI 10)]))) H := hM
  have hA := fun (q : Nat) (h9 : H.size ≤ q) => hA q (by omega)
  refine lv_aload_n hx hb dJx4a65c_add_9ea2d_10 rfl (lv_at hl 0 rfl) ?_
  refine lv_aload_n hx hb dJx4a65c_add_9ea2d_11 rfl (lv_at hl 1 rfl) ?_
  refine lv_aload_n hx hb dJx4a65c_add_9ea2d_12 rfl (lv_at hl 0 rfl) ?_
  refine m_get hx hb hts in_Jx4a65c_add_9ea2d_Jx4a65c hown hK hM mu_s rfl 1 (by decide) (by decide +kernel) rfl dJx4a65c_add_9ea2d_13 ?_
  refine lv_aload_n hx hb dJx4a65c_add_9ea2d_16 rfl (lv_at hl 0 rfl) ?_
  refine m_get hx hb hts in_Jx4a65c_add_9ea2d_Jx4a65c hown hK hM mu_s rfl 2 (by decide) (by decide +kernel) rfl dJx4a65c_add_9ea2d_17 ?_
  refine m_zV 3 [.ref (g tv), .ref (g te), .int (nI 10)] [] hx hb hml hown hts hK (c_add3F l E A g (mu M tl (.inr (0, [.int (xm + 1), .ref (g te), .int (nI 10)]))) tl te tn hlt ((mu_n htl).trans htn) (xm + 1) ci r f hc hr9 mu_s ((mu_n (Ne.symm hlt)).trans h2) (fun i hi y hy => by obtain ⟨w9, a9⟩ := hob i hi; have hy2 := (hf i hi).symm.trans hy; cases hy2; exact ⟨base + i, w9, (mu_n (hbl i hi)).trans a9, rfl⟩) base hf hbe tv vs ((mu_n hvl).trans hv9) hvl hve htv) gJx4a65c_add_9ea2d_Jx4a65c_add_72be8 rfl rfl rfl (by decide +kernel) rfl ⟨Nat.le_of_ble_eq_true rfl, Nat.le_of_ble_eq_true rfl⟩ hM mu_s rfl rfl ⟨hM, hA⟩ hl.1 (Nat.le_of_ble_eq_true rfl) ⟨Nat.le_of_ble_eq_true rfl, Nat.le_of_ble_eq_true rfl⟩ rfl dJx4a65c_add_9ea2d_20 hZ (fun _ h => h) hS (fun _ _ h => h) (fun _ h => h) (fun H locs hQ hz hk hS => ?_)
  refine W.eq (g2 := F0 m 23 ls []) rfl ?_
  obtain ⟨g1, M1, hg1, hM1, hM, hL1⟩ := hQ
  refine lv_iconst (v := 1) hx hb dJx4a65c_add_9ea2d_23 (by decide) ?_
  exact w_z hx hb hr hlocks dJx4a65c_add_9ea2d_24 hS (Nat.le_of_ble_eq_true rfl) (Nat.le_of_ble_eq_true rfl) (rfl) (⟨g1, M1, hg1, fun u q1 q2 => (hM1 u q1 q2).trans (mu_n q1), hM, hL1⟩)
set_option maxHeartbeats 4000000 in
set_option maxRecDepth 100000 in
theorem c_add1N (l : Launch) (E : gE) (A : Nat → Prop) (g : Nat → Nat) (M : gM) (tl te : Nat) (hlt : tl ≠ te) (xm : Int32) (n cap : Nat) (f : Nat → Option Nat) (h : M tl = some (.inr (0, [.int xm, .ref (g te), .int (nI n)]))) (h2 : M te = some (.inl (E.2.2.2.1, cap, .inr (.inr (.inr (.inr (f))))))) (hcn : n < cap) (hcap : cap = if n + 1 ≤ 10 then 10 else 15) (tv ci : Nat) (r : vw_C) (vs : List Value) (hv9 : M tv = some (.inr (ci, vs))) (hvl : tv ≠ tl) (hve : tv ≠ te) (hc : vwCl[ci]? = some r) (hr9 : r.1 ∈ [RX0, RX1, RX2]) (base : Nat) (htv : tv = base + n) (hf1 : ∀ i, i < n → f i = some (g (base + i))) : Met l yJx4a65c_add_9ea2d wsJx4a65c_add_9ea2d ({ frames := 7, cells := 1, slots := 15, locals := 220 } : Room) (Pz E A [.ref (g tl), .ref (g tv)] (fun H => mP E A g M H ∧ ∀ q : Nat, H.size ≤ q → A q)) (QW (some (.int (bI true))) (fun H => ∃ (g' : Nat → Nat) (M' : gM), (∀ u, u ≠ te → g' u = g u) ∧ (∀ u, u ≠ tl → u ≠ te → M' u = M u) ∧ mP E A g' M' H ∧ LW E g' M' tl te base (n + 1)) A) 1 15 A := by
  refine z_entry (by decide) rfl (Nat.le_of_ble_eq_true rfl) ?_
  intro p e s m args below meth c hx hb hr hml hts hown hlocks hin hP hK hZ ls hl
  have hl : lv_has ls 2 [(0, .ref (g tl)), (1, .ref (g tv))] := hl
  have hown : s.vm.findClass RJx4a65c = some m.cls := hown
  have hS : va_S A s.heap s.heap [] := va_S.rf
  skip
  obtain ⟨hM, hA⟩ := hP
  refine lv_aload_n hx hb dJx4a65c_add_9ea2d_0 rfl (lv_at hl 0 rfl) ?_
  refine lv_dup hx hb dJx4a65c_add_9ea2d_1 rfl ?_
  refine m_getU (ref := "java/util/ArrayList") hx hb hts in_Jx4a65c_add_9ea2d_Jx4a65c hown hK hM h rfl 0 (by decide) (by decide +kernel) (u_same (hts (.sameField "java/util/ArrayList" "java/util/AbstractList" "modCount" "I") (by decide +kernel))) rfl dJx4a65c_add_9ea2d_2 ?_
  refine lv_iconst (v := 1) hx hb dJx4a65c_add_9ea2d_5 (by decide) ?_
  refine lv_iadd hx hb dJx4a65c_add_9ea2d_6 ?_
  refine m_putU (ref := "java/util/ArrayList") hx hb hts in_Jx4a65c_add_9ea2d_Jx4a65c tyJx4a65c tyJx4a65c_ok nmJx4a65c hown hK hM hS h rfl 0 (by decide) (by decide +kernel) (u_same (hts (.sameField "java/util/ArrayList" "java/util/AbstractList" "modCount" "I") (by decide +kernel))) rfl (tyJx4a65c_ok 0 (by decide)) rfl rfl (Nat.le_of_ble_eq_true rfl) dJx4a65c_add_9ea2d_7 (fun H locs hM hz hS => ?_)
  have hM : mP E A g (mu M tl (.inr (0, [.int (xm + 1), .ref (g te), .int (nI n)]))) H := hM
  have hA := fun (q : Nat) (h9 : H.size ≤ q) => hA q (by omega)
  refine lv_aload_n hx hb dJx4a65c_add_9ea2d_10 rfl (lv_at hl 0 rfl) ?_
  refine lv_aload_n hx hb dJx4a65c_add_9ea2d_11 rfl (lv_at hl 1 rfl) ?_
  refine lv_aload_n hx hb dJx4a65c_add_9ea2d_12 rfl (lv_at hl 0 rfl) ?_
  refine m_get hx hb hts in_Jx4a65c_add_9ea2d_Jx4a65c hown hK hM mu_s rfl 1 (by decide) (by decide +kernel) rfl dJx4a65c_add_9ea2d_13 ?_
  refine lv_aload_n hx hb dJx4a65c_add_9ea2d_16 rfl (lv_at hl 0 rfl) ?_
  refine m_get hx hb hts in_Jx4a65c_add_9ea2d_Jx4a65c hown hK hM mu_s rfl 2 (by decide) (by decide +kernel) rfl dJx4a65c_add_9ea2d_17 ?_
  refine m_zV 3 [.ref (g tv), .ref (g te), .int (nI n)] [] hx hb hml hown hts hK (c_add3N l E A g (mu M tl (.inr (0, [.int (xm + 1), .ref (g te), .int (nI n)]))) tl te hlt (xm + 1) n cap f mu_s ((mu_n (Ne.symm hlt)).trans h2) hcn hcap tv ci r vs ((mu_n hvl).trans hv9) hvl hve hc hr9 base htv hf1) gJx4a65c_add_9ea2d_Jx4a65c_add_72be8 rfl rfl rfl (by decide +kernel) rfl ⟨Nat.le_of_ble_eq_true rfl, Nat.le_of_ble_eq_true rfl⟩ hM mu_s rfl rfl ⟨hM, hA⟩ hl.1 (Nat.le_of_ble_eq_true rfl) ⟨Nat.le_of_ble_eq_true rfl, Nat.le_of_ble_eq_true rfl⟩ rfl dJx4a65c_add_9ea2d_20 hZ (fun _ h => h) hS (fun _ _ h => h) (fun _ h => h) (fun H locs hQ hz hk hS => ?_)
  refine W.eq (g2 := F0 m 23 ls []) rfl ?_
  obtain ⟨g1, M1, hg1, hM1, hM, hL1⟩ := hQ
  refine lv_iconst (v := 1) hx hb dJx4a65c_add_9ea2d_23 (by decide) ?_
  exact w_z hx hb hr hlocks dJx4a65c_add_9ea2d_24 hS (Nat.le_of_ble_eq_true rfl) (Nat.le_of_ble_eq_true rfl) (rfl) (⟨g1, M1, hg1, fun u q1 q2 => (hM1 u q1 q2).trans (mu_n q1), hM, hL1⟩)
/-- ArrayList.add: the list is longer by one -/
theorem c_add (l : Launch) (E : gE) (A : Nat → Prop) (g : Nat → Nat) (M : gM) (tl te tn base n ci : Nat) (r : vw_C) (hlt : tl ≠ te) (htn : M tn = none) (hL : LW E g M tl te base n) (hn15 : n < 15) (hc : vwCl[ci]? = some r) (hr9 : r.1 ∈ [RX0, RX1, RX2]) (hob : ∀ i, i ≤ n → ∃ vs : List Value, M (base + i) = some (.inr (ci, vs))) (hbl : ∀ i, i ≤ n → base + i ≠ tl ∧ base + i ≠ te) : Met l yJx4a65c_add_9ea2d wsJx4a65c_add_9ea2d ({ frames := 7, cells := 1, slots := 15, locals := 220 } : Room) (Pz E A [.ref (g tl), .ref (g (base + n))] (fun H => mP E A g M H ∧ ∀ q : Nat, H.size ≤ q → A q)) (QW (some (.int (bI true))) (fun H => ∃ (g' : Nat → Nat) (M' : gM), (∀ u, u ≠ te → g' u = g u) ∧ (∀ u, u ≠ tl → u ≠ te → M' u = M u) ∧ mP E A g' M' H ∧ LW E g' M' tl te base (n + 1)) A) 1 15 A := by
  obtain ⟨xm, el, h, h0, h1⟩ := hL
  obtain ⟨vs, hv9⟩ := hob n (Nat.le_refl n)
  obtain ⟨hvl, hve⟩ := hbl n (Nat.le_refl n)
  by_cases q0 : n = 0
  · subst q0
    obtain ⟨rfl, hn⟩ := h0 rfl
    exact c_add1E l E A g M tl te hlt xm h hn (base + 0) ci r vs hv9 hvl hve hc hr9 base rfl
  · obtain ⟨rfl, f, h2, hf⟩ := h1 (by omega)
    by_cases q1 : n = 10
    · subst q1
      exact c_add1F l E A g M tl te tn base hlt htn xm ci r f hc hr9 h h2 (fun i hi => hob i (by omega)) (fun i hi => (hbl i (by omega)).1) hf (fun i hi => (hbl i (by omega)).2) (base + 10) vs hv9 hvl hve rfl
    · have hcap : (if n ≤ 10 then 10 else 15) = if n + 1 ≤ 10 then 10 else 15 := by
        by_cases q2 : n ≤ 10
        · rw [if_pos q2, if_pos (by omega)]
        · rw [if_neg q2, if_neg (by omega)]
      exact c_add1N l E A g M tl te hlt xm n _ f h h2 (by split <;> omega) hcap (base + n) ci r vs hv9 hvl hve hc hr9 base rfl hf
