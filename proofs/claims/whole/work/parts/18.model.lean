/-- the state of a new inn -/
def s0 : Sg := (fun _ _ => 0, fun _ _ => 0, fun _ _ => 0, fun _ => 0, (0, 0, 0, 0), (0, 0, 0))
theorem in_X5_init_X5 : ∀ w ∈ u_ws RX5 TX5 11, w ∈ wsX5_init := by decide +kernel
set_option maxHeartbeats 4000000 in
set_option maxRecDepth 100000 in
theorem m_init (l : Launch) (E : gE) (A : Nat → Prop) (g : Nat → Nat) (M : gM) (h0 : M 0 = some (.inr (6, [.int 0, .int 0, .int 0, .int 0, .int 0, .null, .null, .null, .null, .null, .null]))) (hN : ∀ t, 0 < t → M t = none) : Met l yX5_init wsX5_init ({ frames := 1, cells := 6, slots := 1191, locals := 20 } : Room) (Pm E [.ref (g 0)] (fun H => mP E A g M H ∧ ∀ q : Nat, H.size ≤ q → A q)) (QW none (fun H => ∃ g' M', g' 0 = g 0 ∧ mP E A g' M' H ∧ MW E g' M' s0 0) A) 6 1191 A := by
  refine m_entry (by decide) rfl (Nat.le_of_ble_eq_true rfl) ?_
  intro p e s m args below meth c hx hb hr hml hts hown hlocks hin hP hK ls hl
  have hl : lv_has ls 1 [(0, .ref (g 0))] := hl
  have hown : s.vm.findClass RX5 = some m.cls := hown
  have hS : va_S A s.heap s.heap [] := va_S.rf
  skip
  obtain ⟨hM, hA⟩ := hP
  refine lv_aload_n hx hb dX5_init_0 rfl (lv_at hl 0 rfl) ?_
  refine W.objInit hx hb hown (hts (.methodLink RX5 1 objectInit) (by decide +kernel)) (hts (.instanceMethod objectInit) (by decide +kernel)) (hts (.code objectInit ⟨#[0xb1]⟩ 1 none) (by decide +kernel)) rfl (by rw [hml]; exact hl.1) rfl dX5_init_1 (Nat.le_of_ble_eq_true rfl) (Nat.le_of_ble_eq_true rfl) ?_
  refine W.eq (g2 := F0 m 4 ls []) rfl ?_
  refine lv_aload_n hx hb dX5_init_4 rfl (lv_at hl 0 rfl) ?_
  refine lv_bipush (v := 50) hx hb dX5_init_5 (by decide) ?_
  obtain ⟨q1, hq1⟩ : ∃ q, q = s.heap.size := ⟨_, rfl⟩
  refine m_newa hx hb hts (by decide +kernel) hK hM hS hA 1 (hN 1 (by decide)) 50 (by decide) (by decide) (by decide) (Nat.le_of_ble_eq_true rfl) (Nat.le_of_ble_eq_true rfl) dX5_init_7 (fun H hM hz ho hS => ?_)
  rw [← hq1] at hM ⊢
  have hA := fun (q : Nat) (h : H.size ≤ q) => hA q (by omega)
  refine W.eq (g2 := F0 m 9 ls [.ref ((gu1 (g) 1 q1) 1), .ref ((gu1 (g) 1 q1) 0)]) rfl ?_
  refine m_putF hx hb hts in_X5_init_X5 tyX5 tyX5_ok nmX5 hown hK hM hS ((mu_n (u := 0) (t := 1) (by decide)).trans h0) rfl 5 (by decide) (by decide +kernel) rfl hin rfl (tyX5_ok 5 (by decide)) rfl rfl (Nat.le_of_ble_eq_true rfl) dX5_init_9 (fun H locs hM hz hS => ?_)
  have hM : mP E A (gu1 (g) 1 q1) (mu (mu (M) 1 (.inl (E.2.1, 50, .inl (fun _ => 0)))) 0 (.inr (6, [.int 0, .int 0, .int 0, .int 0, .int 0, .ref ((gu1 (g) 1 q1) 1), .null, .null, .null, .null, .null]))) H := hM
  have hA := fun (q : Nat) (h : H.size ≤ q) => hA q (by omega)
  refine lv_aload_n hx hb dX5_init_12 rfl (lv_at hl 0 rfl) ?_
  refine lv_bipush (v := 10) hx hb dX5_init_13 (by decide) ?_
  obtain ⟨q2, hq2⟩ : ∃ q, q = H.size := ⟨_, rfl⟩
  refine m_newa hx hb hts (by decide +kernel) hK hM hS hA 2 ((mu_n (u := 2) (t := 0) (by decide)).trans ((mu_n (u := 2) (t := 1) (by decide)).trans (hN 2 (by decide)))) 10 (by decide) (by decide) (by decide) (Nat.le_of_ble_eq_true rfl) (Nat.le_of_ble_eq_true rfl) dX5_init_15 (fun H hM hz ho hS => ?_)
  rw [← hq2] at hM ⊢
  have hA := fun (q : Nat) (h : H.size ≤ q) => hA q (by omega)
  refine W.eq (g2 := F0 m 17 ls [.ref ((gu1 (gu1 (g) 1 q1) 2 q2) 2), .ref ((gu1 (gu1 (g) 1 q1) 2 q2) 0)]) rfl ?_
  refine m_putF hx hb hts in_X5_init_X5 tyX5 tyX5_ok nmX5 hown hK hM hS ((mu_n (u := 0) (t := 2) (by decide)).trans mu_s) rfl 6 (by decide) (by decide +kernel) rfl hin rfl (tyX5_ok 6 (by decide)) rfl rfl (Nat.le_of_ble_eq_true rfl) dX5_init_17 (fun H locs hM hz hS => ?_)
  have hM : mP E A (gu1 (gu1 (g) 1 q1) 2 q2) (mu (mu (mu (mu (M) 1 (.inl (E.2.1, 50, .inl (fun _ => 0)))) 0 (.inr (6, [.int 0, .int 0, .int 0, .int 0, .int 0, .ref ((gu1 (g) 1 q1) 1), .null, .null, .null, .null, .null]))) 2 (.inl (E.2.1, 10, .inl (fun _ => 0)))) 0 (.inr (6, [.int 0, .int 0, .int 0, .int 0, .int 0, .ref ((gu1 (gu1 (g) 1 q1) 2 q2) 1), .ref ((gu1 (gu1 (g) 1 q1) 2 q2) 2), .null, .null, .null, .null]))) H := hM
  have hA := fun (q : Nat) (h : H.size ≤ q) => hA q (by omega)
  refine lv_aload_n hx hb dX5_init_20 rfl (lv_at hl 0 rfl) ?_
  refine lv_bipush (v := 20) hx hb dX5_init_21 (by decide) ?_
  obtain ⟨q3, hq3⟩ : ∃ q, q = H.size := ⟨_, rfl⟩
  refine m_newa hx hb hts (by decide +kernel) hK hM hS hA 3 ((mu_n (u := 3) (t := 0) (by decide)).trans ((mu_n (u := 3) (t := 2) (by decide)).trans ((mu_n (u := 3) (t := 0) (by decide)).trans ((mu_n (u := 3) (t := 1) (by decide)).trans (hN 3 (by decide)))))) 20 (by decide) (by decide) (by decide) (Nat.le_of_ble_eq_true rfl) (Nat.le_of_ble_eq_true rfl) dX5_init_23 (fun H hM hz ho hS => ?_)
  rw [← hq3] at hM ⊢
  have hA := fun (q : Nat) (h : H.size ≤ q) => hA q (by omega)
  refine W.eq (g2 := F0 m 25 ls [.ref ((gu1 (gu1 (gu1 (g) 1 q1) 2 q2) 3 q3) 3), .ref ((gu1 (gu1 (gu1 (g) 1 q1) 2 q2) 3 q3) 0)]) rfl ?_
  refine m_putF hx hb hts in_X5_init_X5 tyX5 tyX5_ok nmX5 hown hK hM hS ((mu_n (u := 0) (t := 3) (by decide)).trans mu_s) rfl 7 (by decide) (by decide +kernel) rfl hin rfl (tyX5_ok 7 (by decide)) rfl rfl (Nat.le_of_ble_eq_true rfl) dX5_init_25 (fun H locs hM hz hS => ?_)
  have hM : mP E A (gu1 (gu1 (gu1 (g) 1 q1) 2 q2) 3 q3) (mu (mu (mu (mu (mu (mu (M) 1 (.inl (E.2.1, 50, .inl (fun _ => 0)))) 0 (.inr (6, [.int 0, .int 0, .int 0, .int 0, .int 0, .ref ((gu1 (g) 1 q1) 1), .null, .null, .null, .null, .null]))) 2 (.inl (E.2.1, 10, .inl (fun _ => 0)))) 0 (.inr (6, [.int 0, .int 0, .int 0, .int 0, .int 0, .ref ((gu1 (gu1 (g) 1 q1) 2 q2) 1), .ref ((gu1 (gu1 (g) 1 q1) 2 q2) 2), .null, .null, .null, .null]))) 3 (.inl (E.2.1, 20, .inl (fun _ => 0)))) 0 (.inr (6, [.int 0, .int 0, .int 0, .int 0, .int 0, .ref ((gu1 (gu1 (gu1 (g) 1 q1) 2 q2) 3 q3) 1), .ref ((gu1 (gu1 (gu1 (g) 1 q1) 2 q2) 3 q3) 2), .ref ((gu1 (gu1 (gu1 (g) 1 q1) 2 q2) 3 q3) 3), .null, .null, .null]))) H := hM
  have hA := fun (q : Nat) (h : H.size ≤ q) => hA q (by omega)
  refine lv_aload_n hx hb dX5_init_28 rfl (lv_at hl 0 rfl) ?_
  refine lv_bipush (v := 84) hx hb dX5_init_29 (by decide) ?_
  obtain ⟨q4, hq4⟩ : ∃ q, q = H.size := ⟨_, rfl⟩
  refine m_newa hx hb hts (by decide +kernel) hK hM hS hA 4 ((mu_n (u := 4) (t := 0) (by decide)).trans ((mu_n (u := 4) (t := 3) (by decide)).trans ((mu_n (u := 4) (t := 0) (by decide)).trans ((mu_n (u := 4) (t := 2) (by decide)).trans ((mu_n (u := 4) (t := 0) (by decide)).trans ((mu_n (u := 4) (t := 1) (by decide)).trans (hN 4 (by decide)))))))) 84 (by decide) (by decide) (by decide) (Nat.le_of_ble_eq_true rfl) (Nat.le_of_ble_eq_true rfl) dX5_init_31 (fun H hM hz ho hS => ?_)
  rw [← hq4] at hM ⊢
  have hA := fun (q : Nat) (h : H.size ≤ q) => hA q (by omega)
  refine W.eq (g2 := F0 m 33 ls [.ref ((gu1 (gu1 (gu1 (gu1 (g) 1 q1) 2 q2) 3 q3) 4 q4) 4), .ref ((gu1 (gu1 (gu1 (gu1 (g) 1 q1) 2 q2) 3 q3) 4 q4) 0)]) rfl ?_
  refine m_putF hx hb hts in_X5_init_X5 tyX5 tyX5_ok nmX5 hown hK hM hS ((mu_n (u := 0) (t := 4) (by decide)).trans mu_s) rfl 8 (by decide) (by decide +kernel) rfl hin rfl (tyX5_ok 8 (by decide)) rfl rfl (Nat.le_of_ble_eq_true rfl) dX5_init_33 (fun H locs hM hz hS => ?_)
  have hM : mP E A (gu1 (gu1 (gu1 (gu1 (g) 1 q1) 2 q2) 3 q3) 4 q4) (mu (mu (mu (mu (mu (mu (mu (mu (M) 1 (.inl (E.2.1, 50, .inl (fun _ => 0)))) 0 (.inr (6, [.int 0, .int 0, .int 0, .int 0, .int 0, .ref ((gu1 (g) 1 q1) 1), .null, .null, .null, .null, .null]))) 2 (.inl (E.2.1, 10, .inl (fun _ => 0)))) 0 (.inr (6, [.int 0, .int 0, .int 0, .int 0, .int 0, .ref ((gu1 (gu1 (g) 1 q1) 2 q2) 1), .ref ((gu1 (gu1 (g) 1 q1) 2 q2) 2), .null, .null, .null, .null]))) 3 (.inl (E.2.1, 20, .inl (fun _ => 0)))) 0 (.inr (6, [.int 0, .int 0, .int 0, .int 0, .int 0, .ref ((gu1 (gu1 (gu1 (g) 1 q1) 2 q2) 3 q3) 1), .ref ((gu1 (gu1 (gu1 (g) 1 q1) 2 q2) 3 q3) 2), .ref ((gu1 (gu1 (gu1 (g) 1 q1) 2 q2) 3 q3) 3), .null, .null, .null]))) 4 (.inl (E.2.1, 84, .inl (fun _ => 0)))) 0 (.inr (6, [.int 0, .int 0, .int 0, .int 0, .int 0, .ref ((gu1 (gu1 (gu1 (gu1 (g) 1 q1) 2 q2) 3 q3) 4 q4) 1), .ref ((gu1 (gu1 (gu1 (gu1 (g) 1 q1) 2 q2) 3 q3) 4 q4) 2), .ref ((gu1 (gu1 (gu1 (gu1 (g) 1 q1) 2 q2) 3 q3) 4 q4) 3), .ref ((gu1 (gu1 (gu1 (gu1 (g) 1 q1) 2 q2) 3 q3) 4 q4) 4), .null, .null]))) H := hM
  have hA := fun (q : Nat) (h : H.size ≤ q) => hA q (by omega)
  refine lv_aload_n hx hb dX5_init_36 rfl (lv_at hl 0 rfl) ?_
  refine lv_iconst (v := 3) hx hb dX5_init_37 (by decide) ?_
  obtain ⟨q5, hq5⟩ : ∃ q, q = H.size := ⟨_, rfl⟩
  refine m_newa hx hb hts (by decide +kernel) hK hM hS hA 5 ((mu_n (u := 5) (t := 0) (by decide)).trans ((mu_n (u := 5) (t := 4) (by decide)).trans ((mu_n (u := 5) (t := 0) (by decide)).trans ((mu_n (u := 5) (t := 3) (by decide)).trans ((mu_n (u := 5) (t := 0) (by decide)).trans ((mu_n (u := 5) (t := 2) (by decide)).trans ((mu_n (u := 5) (t := 0) (by decide)).trans ((mu_n (u := 5) (t := 1) (by decide)).trans (hN 5 (by decide)))))))))) 3 (by decide) (by decide) (by decide) (Nat.le_of_ble_eq_true rfl) (Nat.le_of_ble_eq_true rfl) dX5_init_38 (fun H hM hz ho hS => ?_)
  rw [← hq5] at hM ⊢
  have hA := fun (q : Nat) (h : H.size ≤ q) => hA q (by omega)
  refine W.eq (g2 := F0 m 40 ls [.ref ((gu1 (gu1 (gu1 (gu1 (gu1 (g) 1 q1) 2 q2) 3 q3) 4 q4) 5 q5) 5), .ref ((gu1 (gu1 (gu1 (gu1 (gu1 (g) 1 q1) 2 q2) 3 q3) 4 q4) 5 q5) 0)]) rfl ?_
  refine m_putF hx hb hts in_X5_init_X5 tyX5 tyX5_ok nmX5 hown hK hM hS ((mu_n (u := 0) (t := 5) (by decide)).trans mu_s) rfl 9 (by decide) (by decide +kernel) rfl hin rfl (tyX5_ok 9 (by decide)) rfl rfl (Nat.le_of_ble_eq_true rfl) dX5_init_40 (fun H locs hM hz hS => ?_)
  have hM : mP E A (gu1 (gu1 (gu1 (gu1 (gu1 (g) 1 q1) 2 q2) 3 q3) 4 q4) 5 q5) (mu (mu (mu (mu (mu (mu (mu (mu (mu (mu (M) 1 (.inl (E.2.1, 50, .inl (fun _ => 0)))) 0 (.inr (6, [.int 0, .int 0, .int 0, .int 0, .int 0, .ref ((gu1 (g) 1 q1) 1), .null, .null, .null, .null, .null]))) 2 (.inl (E.2.1, 10, .inl (fun _ => 0)))) 0 (.inr (6, [.int 0, .int 0, .int 0, .int 0, .int 0, .ref ((gu1 (gu1 (g) 1 q1) 2 q2) 1), .ref ((gu1 (gu1 (g) 1 q1) 2 q2) 2), .null, .null, .null, .null]))) 3 (.inl (E.2.1, 20, .inl (fun _ => 0)))) 0 (.inr (6, [.int 0, .int 0, .int 0, .int 0, .int 0, .ref ((gu1 (gu1 (gu1 (g) 1 q1) 2 q2) 3 q3) 1), .ref ((gu1 (gu1 (gu1 (g) 1 q1) 2 q2) 3 q3) 2), .ref ((gu1 (gu1 (gu1 (g) 1 q1) 2 q2) 3 q3) 3), .null, .null, .null]))) 4 (.inl (E.2.1, 84, .inl (fun _ => 0)))) 0 (.inr (6, [.int 0, .int 0, .int 0, .int 0, .int 0, .ref ((gu1 (gu1 (gu1 (gu1 (g) 1 q1) 2 q2) 3 q3) 4 q4) 1), .ref ((gu1 (gu1 (gu1 (gu1 (g) 1 q1) 2 q2) 3 q3) 4 q4) 2), .ref ((gu1 (gu1 (gu1 (gu1 (g) 1 q1) 2 q2) 3 q3) 4 q4) 3), .ref ((gu1 (gu1 (gu1 (gu1 (g) 1 q1) 2 q2) 3 q3) 4 q4) 4), .null, .null]))) 5 (.inl (E.2.1, 3, .inl (fun _ => 0)))) 0 (.inr (6, [.int 0, .int 0, .int 0, .int 0, .int 0, .ref ((gu1 (gu1 (gu1 (gu1 (gu1 (g) 1 q1) 2 q2) 3 q3) 4 q4) 5 q5) 1), .ref ((gu1 (gu1 (gu1 (gu1 (gu1 (g) 1 q1) 2 q2) 3 q3) 4 q4) 5 q5) 2), .ref ((gu1 (gu1 (gu1 (gu1 (gu1 (g) 1 q1) 2 q2) 3 q3) 4 q4) 5 q5) 3), .ref ((gu1 (gu1 (gu1 (gu1 (gu1 (g) 1 q1) 2 q2) 3 q3) 4 q4) 5 q5) 4), .ref ((gu1 (gu1 (gu1 (gu1 (gu1 (g) 1 q1) 2 q2) 3 q3) 4 q4) 5 q5) 5), .null]))) H := hM
  have hA := fun (q : Nat) (h : H.size ≤ q) => hA q (by omega)
  refine lv_aload_n hx hb dX5_init_43 rfl (lv_at hl 0 rfl) ?_
  refine lv_sipush (v := 1024) hx hb dX5_init_44 (by decide) ?_
  obtain ⟨q6, hq6⟩ : ∃ q, q = H.size := ⟨_, rfl⟩
  refine m_newa hx hb hts (by decide +kernel) hK hM hS hA 6 ((mu_n (u := 6) (t := 0) (by decide)).trans ((mu_n (u := 6) (t := 5) (by decide)).trans ((mu_n (u := 6) (t := 0) (by decide)).trans ((mu_n (u := 6) (t := 4) (by decide)).trans ((mu_n (u := 6) (t := 0) (by decide)).trans ((mu_n (u := 6) (t := 3) (by decide)).trans ((mu_n (u := 6) (t := 0) (by decide)).trans ((mu_n (u := 6) (t := 2) (by decide)).trans ((mu_n (u := 6) (t := 0) (by decide)).trans ((mu_n (u := 6) (t := 1) (by decide)).trans (hN 6 (by decide)))))))))))) 1024 (by decide) (by decide) (by decide) (Nat.le_of_ble_eq_true rfl) (Nat.le_of_ble_eq_true rfl) dX5_init_47 (fun H hM hz ho hS => ?_)
  rw [← hq6] at hM ⊢
  have hA := fun (q : Nat) (h : H.size ≤ q) => hA q (by omega)
  refine W.eq (g2 := F0 m 49 ls [.ref ((gu1 (gu1 (gu1 (gu1 (gu1 (gu1 (g) 1 q1) 2 q2) 3 q3) 4 q4) 5 q5) 6 q6) 6), .ref ((gu1 (gu1 (gu1 (gu1 (gu1 (gu1 (g) 1 q1) 2 q2) 3 q3) 4 q4) 5 q5) 6 q6) 0)]) rfl ?_
  refine m_putF hx hb hts in_X5_init_X5 tyX5 tyX5_ok nmX5 hown hK hM hS ((mu_n (u := 0) (t := 6) (by decide)).trans mu_s) rfl 10 (by decide) (by decide +kernel) rfl hin rfl (tyX5_ok 10 (by decide)) rfl rfl (Nat.le_of_ble_eq_true rfl) dX5_init_49 (fun H locs hM hz hS => ?_)
  have hM : mP E A (gu1 (gu1 (gu1 (gu1 (gu1 (gu1 (g) 1 q1) 2 q2) 3 q3) 4 q4) 5 q5) 6 q6) (mu (mu (mu (mu (mu (mu (mu (mu (mu (mu (mu (mu (M) 1 (.inl (E.2.1, 50, .inl (fun _ => 0)))) 0 (.inr (6, [.int 0, .int 0, .int 0, .int 0, .int 0, .ref ((gu1 (g) 1 q1) 1), .null, .null, .null, .null, .null]))) 2 (.inl (E.2.1, 10, .inl (fun _ => 0)))) 0 (.inr (6, [.int 0, .int 0, .int 0, .int 0, .int 0, .ref ((gu1 (gu1 (g) 1 q1) 2 q2) 1), .ref ((gu1 (gu1 (g) 1 q1) 2 q2) 2), .null, .null, .null, .null]))) 3 (.inl (E.2.1, 20, .inl (fun _ => 0)))) 0 (.inr (6, [.int 0, .int 0, .int 0, .int 0, .int 0, .ref ((gu1 (gu1 (gu1 (g) 1 q1) 2 q2) 3 q3) 1), .ref ((gu1 (gu1 (gu1 (g) 1 q1) 2 q2) 3 q3) 2), .ref ((gu1 (gu1 (gu1 (g) 1 q1) 2 q2) 3 q3) 3), .null, .null, .null]))) 4 (.inl (E.2.1, 84, .inl (fun _ => 0)))) 0 (.inr (6, [.int 0, .int 0, .int 0, .int 0, .int 0, .ref ((gu1 (gu1 (gu1 (gu1 (g) 1 q1) 2 q2) 3 q3) 4 q4) 1), .ref ((gu1 (gu1 (gu1 (gu1 (g) 1 q1) 2 q2) 3 q3) 4 q4) 2), .ref ((gu1 (gu1 (gu1 (gu1 (g) 1 q1) 2 q2) 3 q3) 4 q4) 3), .ref ((gu1 (gu1 (gu1 (gu1 (g) 1 q1) 2 q2) 3 q3) 4 q4) 4), .null, .null]))) 5 (.inl (E.2.1, 3, .inl (fun _ => 0)))) 0 (.inr (6, [.int 0, .int 0, .int 0, .int 0, .int 0, .ref ((gu1 (gu1 (gu1 (gu1 (gu1 (g) 1 q1) 2 q2) 3 q3) 4 q4) 5 q5) 1), .ref ((gu1 (gu1 (gu1 (gu1 (gu1 (g) 1 q1) 2 q2) 3 q3) 4 q4) 5 q5) 2), .ref ((gu1 (gu1 (gu1 (gu1 (gu1 (g) 1 q1) 2 q2) 3 q3) 4 q4) 5 q5) 3), .ref ((gu1 (gu1 (gu1 (gu1 (gu1 (g) 1 q1) 2 q2) 3 q3) 4 q4) 5 q5) 4), .ref ((gu1 (gu1 (gu1 (gu1 (gu1 (g) 1 q1) 2 q2) 3 q3) 4 q4) 5 q5) 5), .null]))) 6 (.inl (E.2.1, 1024, .inl (fun _ => 0)))) 0 (.inr (6, [.int 0, .int 0, .int 0, .int 0, .int 0, .ref ((gu1 (gu1 (gu1 (gu1 (gu1 (gu1 (g) 1 q1) 2 q2) 3 q3) 4 q4) 5 q5) 6 q6) 1), .ref ((gu1 (gu1 (gu1 (gu1 (gu1 (gu1 (g) 1 q1) 2 q2) 3 q3) 4 q4) 5 q5) 6 q6) 2), .ref ((gu1 (gu1 (gu1 (gu1 (gu1 (gu1 (g) 1 q1) 2 q2) 3 q3) 4 q4) 5 q5) 6 q6) 3), .ref ((gu1 (gu1 (gu1 (gu1 (gu1 (gu1 (g) 1 q1) 2 q2) 3 q3) 4 q4) 5 q5) 6 q6) 4), .ref ((gu1 (gu1 (gu1 (gu1 (gu1 (gu1 (g) 1 q1) 2 q2) 3 q3) 4 q4) 5 q5) 6 q6) 5), .ref ((gu1 (gu1 (gu1 (gu1 (gu1 (gu1 (g) 1 q1) 2 q2) 3 q3) 4 q4) 5 q5) 6 q6) 6)]))) H := hM
  have hA := fun (q : Nat) (h : H.size ≤ q) => hA q (by omega)
  exact w_v hx hb hr hlocks dX5_init_52 hS (Nat.le_of_ble_eq_true rfl) (Nat.le_of_ble_eq_true rfl) (⟨gu1 (gu1 (gu1 (gu1 (gu1 (gu1 (g) 1 q1) 2 q2) 3 q3) 4 q4) 5 q5) 6 q6, _, rfl, hM, ⟨rfl, ⟨fun _ => 0, rfl, fun _ _ _ _ => rfl⟩, ⟨fun _ => 0, rfl, fun _ _ => rfl⟩, ⟨fun _ => 0, rfl, fun _ _ _ _ => rfl⟩, ⟨fun _ => 0, rfl, fun _ _ _ _ => rfl⟩, ⟨fun _ => 0, rfl, rfl, rfl, rfl⟩, ⟨fun _ => 0, rfl⟩, fun t ht => by rw [mu_n (by omega), mu_n (by omega), mu_n (by omega), mu_n (by omega), mu_n (by omega), mu_n (by omega), mu_n (by omega), mu_n (by omega), mu_n (by omega), mu_n (by omega), mu_n (by omega), mu_n (by omega)]; exact hN t (by omega)⟩⟩)
