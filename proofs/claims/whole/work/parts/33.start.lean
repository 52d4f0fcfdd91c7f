theorem in_X4_init_Jx4a65c : ∀ w ∈ u_ws RJx4a65c TJx4a65c 3, w ∈ wsX4_init := by decide +kernel
theorem in_X4_init_X3 : ∀ w ∈ u_ws RX3 TX3 3, w ∈ wsX4_init := by decide +kernel
theorem in_X4_init_X4 : ∀ w ∈ u_ws RX4 TX4 8, w ∈ wsX4_init := by decide +kernel
set_option maxHeartbeats 4000000 in
set_option maxRecDepth 100000 in
theorem c_start (l : Launch) (E : gE) (A : Nat → Prop) (g : Nat → Nat) (M : gM) (h0 : M 0 = some (.inr (5, [.null, .null, .null, .null, .int 0, .int 0, .int 0, .int 0]))) (hN : ∀ t, 0 < t → M t = none) : Met l yX4_init wsX4_init ({ frames := 4, cells := 6, slots := 34, locals := 80 } : Room) (Pz E A [.ref (g 0)] (fun H => mP E A g M H ∧ ∀ q : Nat, H.size ≤ q → A q)) (QW none (fun H => ∃ (g' : Nat → Nat) (M' : gM), g' 0 = g 0 ∧ mP E A g' M' H ∧ CX E g' M' s0) A) 6 34 A := by
  refine z_entry (by decide) rfl (Nat.le_of_ble_eq_true rfl) ?_
  intro p e s m args below meth c hx hb hr hml hts hown hlocks hin hP hK hZ ls hl
  have hl : lv_has ls 1 [(0, .ref (g 0))] := hl
  have hown : s.vm.findClass RX4 = some m.cls := hown
  have hS : va_S A s.heap s.heap [] := va_S.rf
  skip
  obtain ⟨hM, hA⟩ := hP
  have hg0 : g 0 = g 0 := rfl
  have hN : ∀ t, 0 < t → 0 < t → M t = none := fun t h _ => hN t h
  refine lv_aload_n hx hb dX4_init_0 rfl (lv_at hl 0 rfl) ?_
  refine W.objInit hx hb hown (hts (.methodLink RX4 1 objectInit) (by decide +kernel)) (hts (.instanceMethod objectInit) (by decide +kernel)) (hts (.code objectInit ⟨#[0xb1]⟩ 1 none) (by decide +kernel)) rfl (by rw [hml]; exact hl.1) rfl dX4_init_1 (Nat.le_of_ble_eq_true rfl) (Nat.le_of_ble_eq_true rfl) ?_
  refine W.eq (g2 := F0 m 4 ls []) rfl ?_
  refine lv_aload_n hx hb dX4_init_4 rfl (lv_at hl 0 rfl) ?_
  obtain ⟨q9, hq9⟩ : ∃ q, q = s.heap.size := ⟨_, rfl⟩
  refine m_newZ (ci := 0) hx hb hts in_X4_init_Jx4a65c tyJx4a65c tyJx4a65c_ok hown (by decide +kernel) (by decide +kernel) (by decide +kernel) hK hM hS hA 1 (hN 1 (by decide) (by decide)) rfl (fs := [.int 0, .null, .int 0]) (fun j hj => by rcases (show j = 0 ∨ j = 1 ∨ j = 2 by omega) with rfl | rfl | rfl <;> rfl) (Nat.le_of_ble_eq_true rfl) (Nat.le_of_ble_eq_true rfl) dX4_init_5 (fun H hM hz ho hS => ?_)
  have hA := fun (q : Nat) (h : H.size ≤ q) => hA q (by omega)
  rw [← hq9] at hM ⊢
  obtain ⟨g, M, hgu, hgt, hMu, hMt, hM⟩ : ∃ (g2 : Nat → Nat) (M2 : gM), (∀ u, u ≠ 1 → g2 u = g u) ∧ g2 1 = q9 ∧ (∀ u, u ≠ 1 → M2 u = M u) ∧ M2 1 = some (.inr (0, [.int 0, .null, .int 0])) ∧ mP E A g2 M2 H := ⟨_, _, fun u hu => gu1_n hu, gu1_s, fun u hu => mu_n hu, mu_s, hM⟩
  have hg0 := (hgu 0 (by decide)).trans hg0
  have h0 : M 0 = some (.inr (5, [.null, .null, .null, .null, .int 0, .int 0, .int 0, .int 0])) := by rw [hMu 0 (by decide), h0]
  have hN : ∀ t, 0 < t → 1 < t → M t = none := fun t h1 h2 => by rw [hMu t (by omega)]; exact hN t h1 (by omega)
  have hl : lv_has ls 1 [(0, .ref (g 0))] := by rw [hgu 0 (by decide)]; exact hl
  refine W.eq (g2 := F0 m 8 ls [.ref (g 1), .ref (g 0)]) (by rw [hgt, hgu 0 (by decide)]) ?_
  refine lv_dup hx hb dX4_init_8 rfl ?_
  refine m_zI 0 [] [.ref (g 1), .ref (g 0)] hx hb hml hown hts hK (c_alInit l E A g M 1 hMt) gX4_init_Jx4a65c_init_da8c8 rfl rfl rfl (by decide +kernel) (by decide +kernel) (by decide +kernel) rfl (by decide +kernel) rfl ⟨Nat.le_of_ble_eq_true rfl, Nat.le_of_ble_eq_true rfl⟩ hM hl.1 (Nat.le_of_ble_eq_true rfl) ⟨Nat.le_of_ble_eq_true rfl, Nat.le_of_ble_eq_true rfl⟩ rfl dX4_init_9 hZ (fun _ h => h) hS (fun _ _ h => h) (fun _ h => h) (fun H locs hQ hz hk hS => ?_)
  refine W.eq (g2 := F0 m 12 ls [.ref (g 1), .ref (g 0)]) rfl ?_
  obtain ⟨M, hMv, hl1, hM⟩ : ∃ M2 : gM, (∀ u, u ≠ 1 → M2 u = M u) ∧ M2 1 = some (.inr (0, [.int 0, .ref E.2.2.2.2, .int 0])) ∧ mP E A g M2 H := ⟨_, fun u hu => mu_n hu, mu_s, hQ⟩
  have hA := fun (q : Nat) (h : H.size ≤ q) => hA q (by omega)
  have h0 := (hMv 0 (by decide)).trans h0
  have hN : ∀ t, 0 < t → 1 < t → M t = none := fun t h1 h2 => by rw [hMv t (by omega)]; exact hN t h1 h2
  refine m_putF hx hb hts in_X4_init_X4 tyX4 tyX4_ok nmX4 hown hK hM hS h0 rfl 0 (by decide) (by decide +kernel) rfl hin rfl (tyX4_ok 0 (by decide)) rfl rfl (Nat.le_of_ble_eq_true rfl) dX4_init_12 (fun H locs hM hz hS => ?_)
  obtain ⟨M, hMv, h0, hM⟩ : ∃ M2 : gM, (∀ u, u ≠ 0 → M2 u = M u) ∧ M2 0 = some (.inr (5, [.ref (g 1), .null, .null, .null, .int 0, .int 0, .int 0, .int 0])) ∧ mP E A g M2 H := ⟨_, fun u hu => mu_n hu, mu_s, hM⟩
  have hA := fun (q : Nat) (h : H.size ≤ q) => hA q (by omega)
  have hl1 := (hMv 1 (by decide)).trans hl1
  have hN : ∀ t, 0 < t → 1 < t → M t = none := fun t h1 h2 => by rw [hMv t (by omega)]; exact hN t h1 h2
  refine lv_aload_n hx hb dX4_init_15 rfl (lv_at hl 0 rfl) ?_
  obtain ⟨q9, hq9⟩ : ∃ q, q = H.size := ⟨_, rfl⟩
  refine m_newZ (ci := 0) hx hb hts in_X4_init_Jx4a65c tyJx4a65c tyJx4a65c_ok hown (by decide +kernel) (by decide +kernel) (by decide +kernel) hK hM hS hA 2 (hN 2 (by decide) (by decide)) rfl (fs := [.int 0, .null, .int 0]) (fun j hj => by rcases (show j = 0 ∨ j = 1 ∨ j = 2 by omega) with rfl | rfl | rfl <;> rfl) (Nat.le_of_ble_eq_true rfl) (Nat.le_of_ble_eq_true rfl) dX4_init_16 (fun H hM hz ho hS => ?_)
  have hA := fun (q : Nat) (h : H.size ≤ q) => hA q (by omega)
  rw [← hq9] at hM ⊢
  obtain ⟨g, M, hgu, hgt, hMu, hMt, hM⟩ : ∃ (g2 : Nat → Nat) (M2 : gM), (∀ u, u ≠ 2 → g2 u = g u) ∧ g2 2 = q9 ∧ (∀ u, u ≠ 2 → M2 u = M u) ∧ M2 2 = some (.inr (0, [.int 0, .null, .int 0])) ∧ mP E A g2 M2 H := ⟨_, _, fun u hu => gu1_n hu, gu1_s, fun u hu => mu_n hu, mu_s, hM⟩
  have hg0 := (hgu 0 (by decide)).trans hg0
  have h0 : M 0 = some (.inr (5, [.ref (g 1), .null, .null, .null, .int 0, .int 0, .int 0, .int 0])) := by rw [hMu 0 (by decide), h0, hgu 1 (by decide)]
  have hl1 : M 1 = some (.inr (0, [.int 0, .ref E.2.2.2.2, .int 0])) := by rw [hMu 1 (by decide)]; exact hl1
  have hN : ∀ t, 0 < t → 2 < t → M t = none := fun t h1 h2 => by rw [hMu t (by omega)]; exact hN t h1 (by omega)
  have hl : lv_has ls 1 [(0, .ref (g 0))] := by rw [hgu 0 (by decide)]; exact hl
  refine W.eq (g2 := F0 m 19 ls [.ref (g 2), .ref (g 0)]) (by rw [hgt, hgu 0 (by decide)]) ?_
  refine lv_dup hx hb dX4_init_19 rfl ?_
  refine m_zI 0 [] [.ref (g 2), .ref (g 0)] hx hb hml hown hts hK (c_alInit l E A g M 2 hMt) gX4_init_Jx4a65c_init_da8c8 rfl rfl rfl (by decide +kernel) (by decide +kernel) (by decide +kernel) rfl (by decide +kernel) rfl ⟨Nat.le_of_ble_eq_true rfl, Nat.le_of_ble_eq_true rfl⟩ hM hl.1 (Nat.le_of_ble_eq_true rfl) ⟨Nat.le_of_ble_eq_true rfl, Nat.le_of_ble_eq_true rfl⟩ rfl dX4_init_20 hZ (fun _ h => h) hS (fun _ _ h => h) (fun _ h => h) (fun H locs hQ hz hk hS => ?_)
  refine W.eq (g2 := F0 m 23 ls [.ref (g 2), .ref (g 0)]) rfl ?_
  obtain ⟨M, hMv, hl2, hM⟩ : ∃ M2 : gM, (∀ u, u ≠ 2 → M2 u = M u) ∧ M2 2 = some (.inr (0, [.int 0, .ref E.2.2.2.2, .int 0])) ∧ mP E A g M2 H := ⟨_, fun u hu => mu_n hu, mu_s, hQ⟩
  have hA := fun (q : Nat) (h : H.size ≤ q) => hA q (by omega)
  have h0 := (hMv 0 (by decide)).trans h0
  have hl1 := (hMv 1 (by decide)).trans hl1
  have hN : ∀ t, 0 < t → 2 < t → M t = none := fun t h1 h2 => by rw [hMv t (by omega)]; exact hN t h1 h2
  refine m_putF hx hb hts in_X4_init_X4 tyX4 tyX4_ok nmX4 hown hK hM hS h0 rfl 1 (by decide) (by decide +kernel) rfl hin rfl (tyX4_ok 1 (by decide)) rfl rfl (Nat.le_of_ble_eq_true rfl) dX4_init_23 (fun H locs hM hz hS => ?_)
  obtain ⟨M, hMv, h0, hM⟩ : ∃ M2 : gM, (∀ u, u ≠ 0 → M2 u = M u) ∧ M2 0 = some (.inr (5, [.ref (g 1), .ref (g 2), .null, .null, .int 0, .int 0, .int 0, .int 0])) ∧ mP E A g M2 H := ⟨_, fun u hu => mu_n hu, mu_s, hM⟩
  have hA := fun (q : Nat) (h : H.size ≤ q) => hA q (by omega)
  have hl1 := (hMv 1 (by decide)).trans hl1
  have hl2 := (hMv 2 (by decide)).trans hl2
  have hN : ∀ t, 0 < t → 2 < t → M t = none := fun t h1 h2 => by rw [hMv t (by omega)]; exact hN t h1 h2
  refine lv_aload_n hx hb dX4_init_26 rfl (lv_at hl 0 rfl) ?_
  obtain ⟨q9, hq9⟩ : ∃ q, q = H.size := ⟨_, rfl⟩
  refine m_newZ (ci := 0) hx hb hts in_X4_init_Jx4a65c tyJx4a65c tyJx4a65c_ok hown (by decide +kernel) (by decide +kernel) (by decide +kernel) hK hM hS hA 3 (hN 3 (by decide) (by decide)) rfl (fs := [.int 0, .null, .int 0]) (fun j hj => by rcases (show j = 0 ∨ j = 1 ∨ j = 2 by omega) with rfl | rfl | rfl <;> rfl) (Nat.le_of_ble_eq_true rfl) (Nat.le_of_ble_eq_true rfl) dX4_init_27 (fun H hM hz ho hS => ?_)
  have hA := fun (q : Nat) (h : H.size ≤ q) => hA q (by omega)
  rw [← hq9] at hM ⊢
  obtain ⟨g, M, hgu, hgt, hMu, hMt, hM⟩ : ∃ (g2 : Nat → Nat) (M2 : gM), (∀ u, u ≠ 3 → g2 u = g u) ∧ g2 3 = q9 ∧ (∀ u, u ≠ 3 → M2 u = M u) ∧ M2 3 = some (.inr (0, [.int 0, .null, .int 0])) ∧ mP E A g2 M2 H := ⟨_, _, fun u hu => gu1_n hu, gu1_s, fun u hu => mu_n hu, mu_s, hM⟩
  have hg0 := (hgu 0 (by decide)).trans hg0
  have h0 : M 0 = some (.inr (5, [.ref (g 1), .ref (g 2), .null, .null, .int 0, .int 0, .int 0, .int 0])) := by rw [hMu 0 (by decide), h0, hgu 1 (by decide), hgu 2 (by decide)]
  have hl1 : M 1 = some (.inr (0, [.int 0, .ref E.2.2.2.2, .int 0])) := by rw [hMu 1 (by decide)]; exact hl1
  have hl2 : M 2 = some (.inr (0, [.int 0, .ref E.2.2.2.2, .int 0])) := by rw [hMu 2 (by decide)]; exact hl2
  have hN : ∀ t, 0 < t → 3 < t → M t = none := fun t h1 h2 => by rw [hMu t (by omega)]; exact hN t h1 (by omega)
  have hl : lv_has ls 1 [(0, .ref (g 0))] := by rw [hgu 0 (by decide)]; exact hl
  refine W.eq (g2 := F0 m 30 ls [.ref (g 3), .ref (g 0)]) (by rw [hgt, hgu 0 (by decide)]) ?_
  refine lv_dup hx hb dX4_init_30 rfl ?_
  refine m_zI 0 [] [.ref (g 3), .ref (g 0)] hx hb hml hown hts hK (c_alInit l E A g M 3 hMt) gX4_init_Jx4a65c_init_da8c8 rfl rfl rfl (by decide +kernel) (by decide +kernel) (by decide +kernel) rfl (by decide +kernel) rfl ⟨Nat.le_of_ble_eq_true rfl, Nat.le_of_ble_eq_true rfl⟩ hM hl.1 (Nat.le_of_ble_eq_true rfl) ⟨Nat.le_of_ble_eq_true rfl, Nat.le_of_ble_eq_true rfl⟩ rfl dX4_init_31 hZ (fun _ h => h) hS (fun _ _ h => h) (fun _ h => h) (fun H locs hQ hz hk hS => ?_)
  refine W.eq (g2 := F0 m 34 ls [.ref (g 3), .ref (g 0)]) rfl ?_
  obtain ⟨M, hMv, hl3, hM⟩ : ∃ M2 : gM, (∀ u, u ≠ 3 → M2 u = M u) ∧ M2 3 = some (.inr (0, [.int 0, .ref E.2.2.2.2, .int 0])) ∧ mP E A g M2 H := ⟨_, fun u hu => mu_n hu, mu_s, hQ⟩
  have hA := fun (q : Nat) (h : H.size ≤ q) => hA q (by omega)
  have h0 := (hMv 0 (by decide)).trans h0
  have hl1 := (hMv 1 (by decide)).trans hl1
  have hl2 := (hMv 2 (by decide)).trans hl2
  have hN : ∀ t, 0 < t → 3 < t → M t = none := fun t h1 h2 => by rw [hMv t (by omega)]; exact hN t h1 h2
  refine m_putF hx hb hts in_X4_init_X4 tyX4 tyX4_ok nmX4 hown hK hM hS h0 rfl 2 (by decide) (by decide +kernel) rfl hin rfl (tyX4_ok 2 (by decide)) rfl rfl (Nat.le_of_ble_eq_true rfl) dX4_init_34 (fun H locs hM hz hS => ?_)
  obtain ⟨M, hMv, h0, hM⟩ : ∃ M2 : gM, (∀ u, u ≠ 0 → M2 u = M u) ∧ M2 0 = some (.inr (5, [.ref (g 1), .ref (g 2), .ref (g 3), .null, .int 0, .int 0, .int 0, .int 0])) ∧ mP E A g M2 H := ⟨_, fun u hu => mu_n hu, mu_s, hM⟩
  have hA := fun (q : Nat) (h : H.size ≤ q) => hA q (by omega)
  have hl1 := (hMv 1 (by decide)).trans hl1
  have hl2 := (hMv 2 (by decide)).trans hl2
  have hl3 := (hMv 3 (by decide)).trans hl3
  have hN : ∀ t, 0 < t → 3 < t → M t = none := fun t h1 h2 => by rw [hMv t (by omega)]; exact hN t h1 h2
  refine lv_aload_n hx hb dX4_init_37 rfl (lv_at hl 0 rfl) ?_
  obtain ⟨q9, hq9⟩ : ∃ q, q = H.size := ⟨_, rfl⟩
  refine m_newZ (ci := 4) hx hb hts in_X4_init_X3 tyX3 tyX3_ok hown (by decide +kernel) (by decide +kernel) (by decide +kernel) hK hM hS hA 4 (hN 4 (by decide) (by decide)) rfl (fs := [.null, .null, .int 0]) (fun j hj => by rcases (show j = 0 ∨ j = 1 ∨ j = 2 by omega) with rfl | rfl | rfl <;> rfl) (Nat.le_of_ble_eq_true rfl) (Nat.le_of_ble_eq_true rfl) dX4_init_38 (fun H hM hz ho hS => ?_)
  have hA := fun (q : Nat) (h : H.size ≤ q) => hA q (by omega)
  rw [← hq9] at hM ⊢
  obtain ⟨g, M, hgu, hgt, hMu, hMt, hM⟩ : ∃ (g2 : Nat → Nat) (M2 : gM), (∀ u, u ≠ 4 → g2 u = g u) ∧ g2 4 = q9 ∧ (∀ u, u ≠ 4 → M2 u = M u) ∧ M2 4 = some (.inr (4, [.null, .null, .int 0])) ∧ mP E A g2 M2 H := ⟨_, _, fun u hu => gu1_n hu, gu1_s, fun u hu => mu_n hu, mu_s, hM⟩
  have hg0 := (hgu 0 (by decide)).trans hg0
  have h0 : M 0 = some (.inr (5, [.ref (g 1), .ref (g 2), .ref (g 3), .null, .int 0, .int 0, .int 0, .int 0])) := by rw [hMu 0 (by decide), h0, hgu 1 (by decide), hgu 2 (by decide), hgu 3 (by decide)]
  have hl1 : M 1 = some (.inr (0, [.int 0, .ref E.2.2.2.2, .int 0])) := by rw [hMu 1 (by decide)]; exact hl1
  have hl2 : M 2 = some (.inr (0, [.int 0, .ref E.2.2.2.2, .int 0])) := by rw [hMu 2 (by decide)]; exact hl2
  have hl3 : M 3 = some (.inr (0, [.int 0, .ref E.2.2.2.2, .int 0])) := by rw [hMu 3 (by decide)]; exact hl3
  have hN : ∀ t, 0 < t → 4 < t → M t = none := fun t h1 h2 => by rw [hMu t (by omega)]; exact hN t h1 (by omega)
  have hl : lv_has ls 1 [(0, .ref (g 0))] := by rw [hgu 0 (by decide)]; exact hl
  refine W.eq (g2 := F0 m 41 ls [.ref (g 4), .ref (g 0)]) (by rw [hgt, hgu 0 (by decide)]) ?_
  refine lv_dup hx hb dX4_init_41 rfl ?_
  refine m_wIN 0 [] [.ref (g 4), .ref (g 0)] hx hb hml hown hts hK (c_seatInit l E A g M hMt (hN 5 (by decide) (by decide)) (hN 6 (by decide) (by decide))) gX4_init_X3_init_n24 rfl rfl rfl (by decide +kernel) hZ.nest (by decide +kernel) rfl (by decide +kernel) rfl ⟨Nat.le_of_ble_eq_true rfl, Nat.le_of_ble_eq_true rfl⟩ ⟨hM, hA⟩ hl.1 (Nat.le_of_ble_eq_true rfl) ⟨Nat.le_of_ble_eq_true rfl, Nat.le_of_ble_eq_true rfl⟩ rfl dX4_init_42 hS (fun _ _ h => h) (fun _ h => h) (fun H locs hQ hz hk hS => ?_)
  refine W.eq (g2 := F0 m 45 ls [.ref (g 4), .ref (g 0)]) rfl ?_
  obtain ⟨g, M, hgu, hM, h4, h5, h6, hMu⟩ := hQ
  have hA := fun (q : Nat) (h : H.size ≤ q) => hA q (by omega)
  have hg0 := (hgu 0 (by decide) (by decide)).trans hg0
  have h0 : M 0 = some (.inr (5, [.ref (g 1), .ref (g 2), .ref (g 3), .null, .int 0, .int 0, .int 0, .int 0])) := by rw [hMu 0 (by decide) (by decide) (by decide), h0, hgu 1 (by decide) (by decide), hgu 2 (by decide) (by decide), hgu 3 (by decide) (by decide)]
  have hl1 := (hMu 1 (by decide) (by decide) (by decide)).trans hl1
  have hl2 := (hMu 2 (by decide) (by decide) (by decide)).trans hl2
  have hl3 := (hMu 3 (by decide) (by decide) (by decide)).trans hl3
  have hN : ∀ t, 6 < t → M t = none := fun t h2 => by rw [hMu t (by omega) (by omega) (by omega)]; exact hN t (by omega) (by omega)
  have hl : lv_has ls 1 [(0, .ref (g 0))] := by rw [hgu 0 (by decide) (by decide)]; exact hl
  refine W.eq (g2 := F0 m 45 ls [.ref (g 4), .ref (g 0)]) (by rw [hgu 0 (by decide) (by decide), hgu 4 (by decide) (by decide)]) ?_
  refine m_putF hx hb hts in_X4_init_X4 tyX4 tyX4_ok nmX4 hown hK hM hS h0 rfl 3 (by decide) (by decide +kernel) rfl hin rfl (tyX4_ok 3 (by decide)) rfl rfl (Nat.le_of_ble_eq_true rfl) dX4_init_45 (fun H locs hM hz hS => ?_)
  obtain ⟨M, hMv, h0, hM⟩ : ∃ M2 : gM, (∀ u, u ≠ 0 → M2 u = M u) ∧ M2 0 = some (.inr (5, [.ref (g 1), .ref (g 2), .ref (g 3), .ref (g 4), .int 0, .int 0, .int 0, .int 0])) ∧ mP E A g M2 H := ⟨_, fun u hu => mu_n hu, mu_s, hM⟩
  have hA := fun (q : Nat) (h : H.size ≤ q) => hA q (by omega)
  have hl1 := (hMv 1 (by decide)).trans hl1
  have hl2 := (hMv 2 (by decide)).trans hl2
  have hl3 := (hMv 3 (by decide)).trans hl3
  have h4 := (hMv 4 (by decide)).trans h4
  obtain ⟨f5, h5⟩ := h5
  obtain ⟨f6, h6⟩ := h6
  have h5 := (hMv 5 (by decide)).trans h5
  have h6 := (hMv 6 (by decide)).trans h6
  have hN : ∀ t, 6 < t → M t = none := fun t h2 => by rw [hMv t (by omega)]; exact hN t h2
  exact w_v hx hb hr hlocks dX4_init_48 hS (Nat.le_of_ble_eq_true rfl) (Nat.le_of_ble_eq_true rfl) (⟨g, M, hg0, hM, ⟨⟨h0, ⟨0, E.2.2.2.2, hl1, fun _ => ⟨rfl, hN 7 (by decide)⟩, fun h => absurd h (by decide)⟩, ⟨0, E.2.2.2.2, hl2, fun _ => ⟨rfl, hN 8 (by decide)⟩, fun h => absurd h (by decide)⟩, ⟨0, E.2.2.2.2, hl3, fun _ => ⟨rfl, hN 9 (by decide)⟩, fun h => absurd h (by decide)⟩⟩, ⟨⟨0, h4⟩, ⟨f5, h5⟩, ⟨f6, h6⟩⟩, fun i hi => absurd hi (Nat.not_lt_zero i), fun i hi => absurd hi (Nat.not_lt_zero i), fun i hi => absurd hi (Nat.not_lt_zero i)⟩, fun i hi => absurd hi (Nat.not_lt_zero i), fun t e ht => Or.inl (by rcases Nat.lt_or_ge t 7 with q | q; exact Nat.lt_of_lt_of_le q (by decide); rw [hN t q] at ht; cases ht)⟩)
