theorem in_X4_haunt_X0 : ∀ w ∈ u_ws RX0 TX0 5, w ∈ wsX4_haunt := by decide +kernel
theorem in_X4_haunt_X4 : ∀ w ∈ u_ws RX4 TX4 8, w ∈ wsX4_haunt := by decide +kernel
set_option maxHeartbeats 4000000 in
set_option maxRecDepth 100000 in
theorem c_hauntOk (l : Launch) (E : gE) (A : Nat → Prop) (g : Nat → Nat) (M : gM) (σ : Sg) (hv : VS σ) (hw : CW E g M σ) (hp : PW E M σ) (hd : CD M σ) (k w : Nat) (hk9 : k < kR σ) (hw9 : w < 12) (xf xb : Int32) (hok : (1 ≤ xf ∧ xf ≤ 9) ∧ nI w < xb ∧ xb ≤ 12) (hn : kG σ < 5) : Met l yX4_haunt wsX4_haunt ({ frames := 8, cells := 3, slots := 32, locals := 241 } : Room) (Pz E A [.ref (g 0), .int (nI k), .int xf, .int (nI w), .int xb] (fun H => mP E A g M H ∧ ∀ q : Nat, H.size ≤ q → A q)) (QW (some (.int (nI (kG σ)))) (fun H => ∃ (g' : Nat → Nat) (M' : gM), g' 0 = g 0 ∧ mP E A g' M' H ∧ CX E g' M' (haS σ (nI k) xf (nI w) xb)) A) 3 32 A := by
  refine z_entry (by decide) rfl (Nat.le_of_ble_eq_true rfl) ?_
  intro p e s m args below meth c hx hb hr hml hts hown hlocks hin hP hK hZ ls hl
  have hl : lv_has ls 6 [(0, .ref (g 0)), (1, .int (nI k)), (2, .int xf), (3, .int (nI w)), (4, .int xb)] := hl
  have hown : s.vm.findClass RX4 = some m.cls := hown
  have hS : va_S A s.heap s.heap [] := va_S.rf
  skip
  obtain ⟨hM, hA⟩ := hP
  obtain ⟨⟨hR9, hG9, hU9, hD9⟩, -⟩ := id hv
  obtain ⟨mc1, el1, h1, -⟩ := CW.LR hw
  obtain ⟨mc2, el2, h2, -⟩ := CW.LG hw
  obtain ⟨mc3, el3, h3, -⟩ := CW.LU hw
  have hok9 : nI (w + 1) ≤ xb := by rw [← nI_1]; exact (wk_1 ⟨nI_pos' (by omega), nI_le (b := 11) (by omega) (by decide)⟩).mpr hok.2.1
  refine lv_aload_n hx hb dX4_haunt_0 rfl (lv_at hl 0 rfl) ?_
  refine lv_iload_n hx hb dX4_haunt_1 rfl (lv_at hl 1 rfl) ?_
  refine m_cV 1 [.int (nI k)] [] hx hb hml hown hts hK (c_isRoomY l E A g M σ hv hw k (by omega)) gX4_haunt_X4_isRoom rfl rfl rfl (by decide +kernel) rfl ⟨Nat.le_of_ble_eq_true rfl, Nat.le_of_ble_eq_true rfl⟩ hM (CW.x hw) rfl rfl hM hl.1 (Nat.le_of_ble_eq_true rfl) ⟨Nat.le_of_ble_eq_true rfl, Nat.le_of_ble_eq_true rfl⟩ rfl dX4_haunt_2 ?_
  refine lv_if_ne (tgt := 18) hx hb dX4_haunt_5 (by decide) (fun c9 => ?_) (fun c9 => absurd c9 (by decide))
  refine lv_iload_n hx hb dX4_haunt_18 rfl (lv_at hl 2 rfl) ?_
  refine lv_iconst (v := 1) hx hb dX4_haunt_19 (by decide) ?_
  refine lv_bipush (v := 9) hx hb dX4_haunt_20 (by decide) ?_
  refine m_cS 3 [.int xf, .int 1, .int 9] [] hx hb hml hown hts hK (c_withinY l E A g M xf 1 9 (hok.1)) gX4_haunt_X4_within rfl rfl rfl (by decide +kernel) rfl ⟨Nat.le_of_ble_eq_true rfl, Nat.le_of_ble_eq_true rfl⟩ trivial hl.1 (Nat.le_of_ble_eq_true rfl) ⟨Nat.le_of_ble_eq_true rfl, Nat.le_of_ble_eq_true rfl⟩ rfl dX4_haunt_22 ?_
  refine lv_if_eq (tgt := 51) hx hb dX4_haunt_25 (by decide) (fun c9 => absurd c9 (by decide)) (fun c9 => ?_)
  refine lv_iload_n hx hb dX4_haunt_28 rfl (lv_at hl 3 rfl) ?_
  refine lv_iconst (v := 0) hx hb dX4_haunt_29 (by decide) ?_
  refine lv_bipush (v := 11) hx hb dX4_haunt_30 (by decide) ?_
  refine m_cS 3 [.int (nI w), .int 0, .int 11] [] hx hb hml hown hts hK (c_withinY l E A g M (nI w) 0 11 (⟨nI_pos' (by omega), nI_le (b := 11) (by omega) (by decide)⟩)) gX4_haunt_X4_within rfl rfl rfl (by decide +kernel) rfl ⟨Nat.le_of_ble_eq_true rfl, Nat.le_of_ble_eq_true rfl⟩ trivial hl.1 (Nat.le_of_ble_eq_true rfl) ⟨Nat.le_of_ble_eq_true rfl, Nat.le_of_ble_eq_true rfl⟩ rfl dX4_haunt_32 ?_
  refine lv_if_eq (tgt := 51) hx hb dX4_haunt_35 (by decide) (fun c9 => absurd c9 (by decide)) (fun c9 => ?_)
  refine lv_iload hx hb dX4_haunt_38 (lv_at hl 4 rfl) ?_
  refine lv_iload_n hx hb dX4_haunt_40 rfl (lv_at hl 3 rfl) ?_
  refine lv_iconst (v := 1) hx hb dX4_haunt_41 (by decide) ?_
  refine lv_iadd hx hb dX4_haunt_42 ?_
  refine W.eq (g2 := F0 m 43 ls [.int ((nI w) + 1), .int xb]) rfl ?_
  rw [show ((nI w) + 1 : Int32) = nI (w + 1) from nI_1 w]
  refine lv_bipush (v := 12) hx hb dX4_haunt_43 (by decide) ?_
  refine m_cS 3 [.int xb, .int (nI (w + 1)), .int 12] [] hx hb hml hown hts hK (c_withinY l E A g M xb (nI (w + 1)) 12 (⟨hok9, hok.2.2⟩)) gX4_haunt_X4_within rfl rfl rfl (by decide +kernel) rfl ⟨Nat.le_of_ble_eq_true rfl, Nat.le_of_ble_eq_true rfl⟩ trivial hl.1 (Nat.le_of_ble_eq_true rfl) ⟨Nat.le_of_ble_eq_true rfl, Nat.le_of_ble_eq_true rfl⟩ rfl dX4_haunt_45 ?_
  refine lv_if_ne (tgt := 61) hx hb dX4_haunt_48 (by decide) (fun c9 => ?_) (fun c9 => absurd c9 (by decide))
  refine lv_aload_n hx hb dX4_haunt_61 rfl (lv_at hl 0 rfl) ?_
  refine m_get hx hb hts in_X4_haunt_X4 hown hK hM (CW.x hw) rfl 1 (by decide) (by decide +kernel) rfl dX4_haunt_62 ?_
  refine m_cV 0 [] [] hx hb hml hown hts hK (c_size l E A g M (CW.LG hw)) gX4_haunt_Jx4a65c_size_8abf5 rfl rfl rfl (by decide +kernel) rfl ⟨Nat.le_of_ble_eq_true rfl, Nat.le_of_ble_eq_true rfl⟩ hM h2 rfl rfl hM hl.1 (Nat.le_of_ble_eq_true rfl) ⟨Nat.le_of_ble_eq_true rfl, Nat.le_of_ble_eq_true rfl⟩ rfl dX4_haunt_65 ?_
  refine lv_iconst (v := 5) hx hb dX4_haunt_68 (by decide) ?_
  refine lv_icmp_lt (tgt := 82) hx hb dX4_haunt_69 (by decide) (fun c69 => ?_) (fun c9 => absurd (nI_lt (b := 5) (by omega) (by decide)) c9)
  have hn9 : M (200 + kG σ) = none := cd_none2 hd (by omega) (fun i hi => by omega) (fun i hi => by omega) (fun i hi => by omega)
  have hnp : M (300 + kG σ) = none := cd_none2 hd (by omega) (fun i hi => by omega) (fun i hi => by omega) (fun i hi => by omega)
  obtain ⟨q9, hq9⟩ : ∃ q, q = s.heap.size := ⟨_, rfl⟩
  refine m_newZ (ci := 1) hx hb hts in_X4_haunt_X0 tyX0 tyX0_ok hown (by decide +kernel) (by decide +kernel) (by decide +kernel) hK hM hS hA (200 + kG σ) hn9 rfl (fs := [.int 0, .int 0, .int 0, .int 0, .null]) (fun j hj => by rcases (show j = 0 ∨ j = 1 ∨ j = 2 ∨ j = 3 ∨ j = 4 by omega) with rfl | rfl | rfl | rfl | rfl <;> rfl) (Nat.le_of_ble_eq_true rfl) (Nat.le_of_ble_eq_true rfl) dX4_haunt_82 (fun H hM hz ho hS => ?_)
  have hA := fun (q : Nat) (h : H.size ≤ q) => hA q (by omega)
  rw [← hq9] at hM ⊢
  obtain ⟨g, M, hgu, hgt, hMu, hMt, hM⟩ : ∃ (g2 : Nat → Nat) (M2 : gM), (∀ u, u ≠ (200 + kG σ) → g2 u = g u) ∧ g2 (200 + kG σ) = q9 ∧ (∀ u, u ≠ (200 + kG σ) → M2 u = M u) ∧ M2 (200 + kG σ) = some (.inr (1, [.int 0, .int 0, .int 0, .int 0, .null])) ∧ mP E A g2 M2 H := ⟨_, _, fun u hu => gu1_n hu, gu1_s, fun u hu => mu_n hu, mu_s, hM⟩
  have hl : lv_has ls 6 [(0, .ref (g 0)), (1, .int (nI k)), (2, .int xf), (3, .int (nI w)), (4, .int xb)] := by rw [hgu 0 (by omega)]; exact hl
  refine W.eq (g2 := F0 m 85 ls [.ref (g (200 + kG σ))]) (by rw [hgt]) ?_
  refine lv_dup hx hb dX4_haunt_85 rfl ?_
  refine lv_iload_n hx hb dX4_haunt_86 rfl (lv_at hl 1 rfl) ?_
  refine lv_iload_n hx hb dX4_haunt_87 rfl (lv_at hl 2 rfl) ?_
  refine lv_iload_n hx hb dX4_haunt_88 rfl (lv_at hl 3 rfl) ?_
  refine lv_iload hx hb dX4_haunt_89 (lv_at hl 4 rfl) ?_
  refine m_wI 4 [.int (nI k), .int xf, .int (nI w), .int xb] [.ref (g (200 + kG σ))] hx hb hml hown hts hK (c_ghostInit l E A g M (200 + kG σ) (300 + kG σ) (by omega) (nI k) xf (nI w) xb hMt ((hMu _ (by omega)).trans hnp)) gX4_haunt_X0_init rfl rfl rfl (by decide +kernel) (by decide +kernel) (by decide +kernel) rfl (by decide +kernel) rfl ⟨Nat.le_of_ble_eq_true rfl, Nat.le_of_ble_eq_true rfl⟩ ⟨hM, hA⟩ hl.1 (Nat.le_of_ble_eq_true rfl) ⟨Nat.le_of_ble_eq_true rfl, Nat.le_of_ble_eq_true rfl⟩ rfl dX4_haunt_91 hS (fun _ _ h => h) (fun _ h => h) (fun H locs hQ hz hk hS => ?_)
  refine W.eq (g2 := F0 m 94 ls [.ref (g (200 + kG σ))]) rfl ?_
  obtain ⟨q8, hM⟩ := hQ
  obtain ⟨g, M, hgv, hMv, hMt, hMp, hM⟩ : ∃ (g2 : Nat → Nat) (M2 : gM), (∀ u, u ≠ (300 + kG σ) → g2 u = g u) ∧ (∀ u, u ≠ (200 + kG σ) → u ≠ (300 + kG σ) → M2 u = M u) ∧ M2 (200 + kG σ) = some (.inr (1, [.int (nI k), .int xf, .int (nI w), .int xb, .ref (g2 (300 + kG σ))])) ∧ M2 (300 + kG σ) = some (.inl (E.2.1, 12, .inl (fun _ => 0))) ∧ mP E A g2 M2 H := ⟨_, _, fun u hu => gu1_n hu, fun u h1 h2 => (mu_n h1).trans (mu_n h2), by rw [gu1_s]; exact mu_s, (mu_n (by omega)).trans mu_s, hM⟩
  have hgu := fun u (h1 : u ≠ (200 + kG σ)) (h2 : u ≠ (300 + kG σ)) => (hgv u h2).trans (hgu u h1)
  have hMu := fun u (h1 : u ≠ (200 + kG σ)) (h2 : u ≠ (300 + kG σ)) => (hMv u h1 h2).trans (hMu u h1)
  have hA := fun (q : Nat) (h : H.size ≤ q) => hA q (by omega)
  have hwA : CW E g M σ := cw_away hw (fun u hu => ⟨hgu u (by rcases hu with h | ⟨i, h1, h2⟩ | ⟨i, h1, h2⟩ | ⟨i, h1, h2⟩ <;> omega) (by rcases hu with h | ⟨i, h1, h2⟩ | ⟨i, h1, h2⟩ | ⟨i, h1, h2⟩ <;> omega), hMu u (by rcases hu with h | ⟨i, h1, h2⟩ | ⟨i, h1, h2⟩ | ⟨i, h1, h2⟩ <;> omega) (by rcases hu with h | ⟨i, h1, h2⟩ | ⟨i, h1, h2⟩ | ⟨i, h1, h2⟩ <;> omega)⟩)
  have hl : lv_has ls 6 [(0, .ref (g 0)), (1, .int (nI k)), (2, .int xf), (3, .int (nI w)), (4, .int xb)] := by rw [hgv 0 (by omega)]; exact hl
  refine W.eq (g2 := F0 m 94 ls [.ref (g (200 + kG σ))]) (by rw [hgv (200 + kG σ) (by omega)]) ?_
  refine lv_astore (lv' := [(5, .ref (g (200 + kG σ))), (0, .ref (g 0)), (1, .int (nI k)), (2, .int xf), (3, .int (nI w)), (4, .int xb)]) hx hb dX4_haunt_94 hl (by decide) rfl (fun ls hl => ?_)
  refine lv_aload_n hx hb dX4_haunt_96 rfl (lv_at hl 1 rfl) ?_
  refine lv_aload hx hb dX4_haunt_97 (lv_at hl 0 rfl) ?_
  refine m_wV 1 [.ref (g (200 + kG σ))] [] hx hb hml hown hts hK (c_planWay l E A g M σ hv hwA (200 + kG σ) (300 + kG σ) xf xb k w hk9 hw9 hMt (fun _ => 0) hMp ⟨by omega, by omega⟩ (by omega)) gX4_haunt_X4_planWay rfl rfl rfl (by decide +kernel) rfl ⟨Nat.le_of_ble_eq_true rfl, Nat.le_of_ble_eq_true rfl⟩ hM (CW.x hwA) rfl rfl hM hl.1 (Nat.le_of_ble_eq_true rfl) ⟨Nat.le_of_ble_eq_true rfl, Nat.le_of_ble_eq_true rfl⟩ rfl dX4_haunt_99 hS (fun _ _ h => h) (fun _ h => h) (fun H locs hQ hz hk hS => ?_)
  refine W.eq (g2 := F0 m 102 ls []) rfl ?_
  obtain ⟨f8, hM, hf8⟩ := hQ
  have hA := fun (q : Nat) (h : H.size ≤ q) => hA q (by omega)
  obtain ⟨M, hMv, hMp, hM⟩ : ∃ M2 : gM, (∀ u, u ≠ (300 + kG σ) → M2 u = M u) ∧ M2 (300 + kG σ) = some (.inl (E.2.1, 12, .inl f8)) ∧ mP E A g M2 H := ⟨_, fun u hu => mu_n hu, mu_s, hM⟩
  have hMt := (hMv _ (by omega)).trans hMt
  have hMu := fun u (h1 : u ≠ (200 + kG σ)) (h2 : u ≠ (300 + kG σ)) => (hMv u h2).trans (hMu u h1 h2)
  have hwA : CW E g M σ := cw_away hw (fun u hu => ⟨hgu u (by rcases hu with h | ⟨i, h1, h2⟩ | ⟨i, h1, h2⟩ | ⟨i, h1, h2⟩ <;> omega) (by rcases hu with h | ⟨i, h1, h2⟩ | ⟨i, h1, h2⟩ | ⟨i, h1, h2⟩ <;> omega), hMu u (by rcases hu with h | ⟨i, h1, h2⟩ | ⟨i, h1, h2⟩ | ⟨i, h1, h2⟩ <;> omega) (by rcases hu with h | ⟨i, h1, h2⟩ | ⟨i, h1, h2⟩ | ⟨i, h1, h2⟩ <;> omega)⟩)
  refine lv_aload_n hx hb dX4_haunt_102 rfl (lv_at hl 1 rfl) ?_
  refine m_get hx hb hts in_X4_haunt_X4 hown hK hM (CW.x hwA) rfl 1 (by decide) (by decide +kernel) rfl dX4_haunt_103 ?_
  refine lv_aload hx hb dX4_haunt_106 (lv_at hl 0 rfl) ?_
  have hn99 : M 99 = none := (hMu 99 (by omega) (by omega)).trans (cd_none2 hd (by omega) (fun i hi => by omega) (fun i hi => by omega) (fun i hi => by omega))
  have hob9 : ∀ i, i ≤ kG σ → ∃ vs : List Value, M (200 + i) = some (.inr (1, vs)) := fun i hi => by rcases Nat.lt_or_eq_of_le hi with q | q; exact ⟨_, (hMu _ (by omega) (by omega)).trans (CW.ghost hw q)⟩; (subst q; exact ⟨_, hMt⟩)
  refine m_zV 1 [.ref (g (200 + kG σ))] [] hx hb hml hown hts hK (c_add l E A g M 2 8 99 200 (kG σ) 1 _ (by decide) hn99 (CW.LG hwA) (by omega) rfl (by simp) hob9 (fun i hi => ⟨by omega, by omega⟩)) gX4_haunt_Jx4a65c_add_9ea2d rfl rfl rfl (by decide +kernel) rfl ⟨Nat.le_of_ble_eq_true rfl, Nat.le_of_ble_eq_true rfl⟩ hM ((hMu 2 (by omega) (by omega)).trans h2) rfl rfl ⟨hM, hA⟩ hl.1 (Nat.le_of_ble_eq_true rfl) ⟨Nat.le_of_ble_eq_true rfl, Nat.le_of_ble_eq_true rfl⟩ rfl dX4_haunt_108 hZ (fun _ h => h) hS (fun _ _ h => h) (fun _ h => h) (fun H locs hQ hz hk hS => ?_)
  refine W.eq (g2 := F0 m 111 ls [.int (bI true)]) rfl ?_
  obtain ⟨g, M, hg8, hM8, hM, hL8⟩ := hQ
  have hA := fun (q : Nat) (h : H.size ≤ q) => hA q (by omega)
  have hX9 : CX E g M (haS σ (nI k) xf (nI w) xb) := cx_ha ⟨hw, hp, hd⟩ ⟨hR9, hn, hU9⟩ k w hk9 hw9 xf xb hf8 (fun u h1 h2 h3 => (hg8 u h3).trans (hgu u h1 h2)) (fun u h1 h2 h3 h4 => (hM8 u h3 h4).trans (hMu u h1 h2)) (by rw [hM8 _ (by omega) (by omega), hg8 _ (by omega)]; exact hMt) ((hM8 _ (by omega) (by omega)).trans hMp) hL8
  have hg0 := (hg8 0 (by omega)).trans (hgu 0 (by omega) (by omega))
  obtain ⟨hw, hp, hd⟩ := hX9
  obtain ⟨mc1, el1, h1, -⟩ := CW.LR hw
  obtain ⟨mc2, el2, h2, -⟩ := CW.LG hw
  obtain ⟨mc3, el3, h3, -⟩ := CW.LU hw
  have hl : lv_has ls 6 [(0, .ref (g 0)), (1, .int (nI k)), (2, .int xf), (3, .int (nI w)), (4, .int xb)] := by have h9 := lv_sub hl [1, 2, 3, 4, 5] rfl; rw [hg8 0 (by omega)]; exact h9
  refine lv_pop hx hb dX4_haunt_111 rfl ?_
  refine lv_aload_n hx hb dX4_haunt_112 rfl (lv_at hl 0 rfl) ?_
  refine m_get hx hb hts in_X4_haunt_X4 hown hK hM (CW.x hw) rfl 1 (by decide) (by decide +kernel) rfl dX4_haunt_113 ?_
  refine m_cV 0 [] [] hx hb hml hown hts hK (c_size l E A g M (CW.LG hw)) gX4_haunt_Jx4a65c_size_8abf5 rfl rfl rfl (by decide +kernel) rfl ⟨Nat.le_of_ble_eq_true rfl, Nat.le_of_ble_eq_true rfl⟩ hM h2 rfl rfl hM hl.1 (Nat.le_of_ble_eq_true rfl) ⟨Nat.le_of_ble_eq_true rfl, Nat.le_of_ble_eq_true rfl⟩ rfl dX4_haunt_116 ?_
  refine lv_iconst (v := 1) hx hb dX4_haunt_119 (by decide) ?_
  refine lv_isub hx hb dX4_haunt_120 ?_
  refine W.eq (g2 := F0 m 121 ls [.int ((nI (kG σ + 1)) - 1)]) rfl ?_
  rw [show ((nI (kG σ + 1)) - 1 : Int32) = nI (kG σ) from nI_p1 _]
  exact w_i hx hb hr hlocks dX4_haunt_121 hS (Nat.le_of_ble_eq_true rfl) (Nat.le_of_ble_eq_true rfl) (by first | rfl | assumption) (⟨g, M, hg0, hM, hw, hp, hd⟩)
