theorem in_X3_seat_X3 : ∀ w ∈ u_ws RX3 TX3 3, w ∈ wsX3_seat := by decide +kernel
set_option maxHeartbeats 4000000 in
set_option maxRecDepth 100000 in
theorem c_seat (l : Launch) (E : gE) (A : Nat → Prop) (g : Nat → Nat) (M : gM) (al : Nat → Int32) (sa : Int32) (ho : Nat → Int32) (h4 : M 4 = some (.inr (4, [.ref (g 5), .ref (g 6), .int sa]))) (h5 : M 5 = some (.inl (E.2.1, 12, .inl al))) (h6 : M 6 = some (.inl (E.2.1, 10, .inl ho))) (hho : HO ho) (u : Nat) (hu : u < 12) : Met l yX3_seat wsX3_seat ({ frames := 12, cells := 0, slots := 0, locals := 300 } : Room) (Pm E [.ref (g 4), .int (nI u)] (mP E A g M)) (QW (some (.int (bI (kF al 11 u (0, ho)).1))) (mP E A g (mS4 E g M (kF al 11 u (0, ho)).2)) A) 0 0 A := by
  refine m_entry (by decide) rfl (Nat.le_of_ble_eq_true rfl) ?_
  intro p e s m args below meth c hx hb hr hml hts hown hlocks hin hM hK ls hl
  have hl : lv_has ls 2 [(0, .ref (g 4)), (1, .int (nI u))] := hl
  have hown : s.vm.findClass RX3 = some m.cls := hown
  have hS : va_S A s.heap s.heap [] := va_S.rf
  skip
  refine lv_aload_n hx hb dX3_seat_0 rfl (lv_at hl 0 rfl) ?_
  refine lv_iconst (v := 0) hx hb dX3_seat_1 (by decide) ?_
  refine m_put hx hb hts in_X3_seat_X3 tyX3 tyX3_ok nmX3 hown hK hM hS h4 rfl 2 (by decide) (by decide +kernel) rfl (tyX3_ok 2 (by decide)) rfl rfl (Nat.le_of_ble_eq_true rfl) dX3_seat_2 (fun H locs hM hz hS => ?_)
  have hM : mP E A g (mu M 4 (.inr (4, [.ref (g 5), .ref (g 6), .int 0]))) H := hM
  rw [← mS4_id h4 h6, mS4_p4] at hM
  refine lv_aload_n hx hb dX3_seat_5 rfl (lv_at hl 0 rfl) ?_
  refine lv_iload_n hx hb dX3_seat_6 rfl (lv_at hl 1 rfl) ?_
  refine lv_iconst (v := 0) hx hb dX3_seat_7 (by decide) ?_
  refine m_wS 3 [.ref (g 4), .int (nI u), .int 0] [] hx hb hml hown hts hK (c_find11 l E A g (mS4 E g M (0, ho)) al 0 ho mS4_4 (mS4_5.trans h5) mS4_6 hho u hu) gX3_seat_X3_findRoom rfl rfl rfl (by decide +kernel) rfl ⟨Nat.le_of_ble_eq_true rfl, Nat.le_of_ble_eq_true rfl⟩ hM hl.1 (Nat.le_of_ble_eq_true rfl) ⟨Nat.le_of_ble_eq_true rfl, Nat.le_of_ble_eq_true rfl⟩ rfl dX3_seat_8 hS (fun _ _ h => h) (fun _ h => h) (fun H locs hQ hz hk hS => ?_)
  refine W.eq (g2 := F0 m 11 ls [.int (bI (kF al 11 u (0, ho)).1)]) rfl ?_
  rw [mS4_2] at hQ
  exact w_z hx hb hr hlocks dX3_seat_11 hS (Nat.le_of_ble_eq_true rfl) (Nat.le_of_ble_eq_true rfl) (rfl) (hQ)
