/-- the reference's haunting of a night: ghost by ghost -/
def mh1 (σ : Sg) (r : Int32) (i : Nat) (s0 : Int32) : Nat → Int32
  | 0 => s0
  | h + 1 => mh1 σ r i s0 h + (if plc σ i h = r then sGh σ i 1 else 0)
def mhA (σ : Sg) (r z : Int32) : Nat → Int32
  | 0 => 0
  | i + 1 => if nI i = z then mhA σ r z i else mh1 σ r i (mhA σ r z i) 12
theorem mh1_acc (σ : Sg) (r : Int32) (i : Nat) (s0 : Int32) : ∀ h, mh1 σ r i s0 h = s0 + mh1 σ r i 0 h
  | 0 => by rw [mh1, mh1, Int32.add_zero]
  | h + 1 => by rw [mh1, mh1, mh1_acc σ r i s0 h, Int32.add_assoc]
theorem hIH_step (σ : Sg) (r z : Int32) (n h : Nat) : hIH σ r h z (n + 1) = hIH σ r h z n + (if nI n = z then 0 else if plc σ n h = r then sGh σ n 1 else 0) := by
  rw [hIH]
  by_cases c1 : nI n = z
  · rw [if_neg (fun q => q.1 c1), if_pos c1, Int32.add_zero]
  · by_cases c2 : plc σ n h = r
    · rw [if_pos ⟨c1, c2⟩, if_neg c1, if_pos c2]
    · rw [if_neg (fun q => c2 q.2), if_neg c1, if_neg c2, Int32.add_zero]
def hOn (σ : Sg) (r z : Int32) (n : Nat) : Nat → Int32
  | 0 => 0
  | h + 1 => hOn σ r z n h + hIH σ r h z n
theorem hOn_0 (σ : Sg) (r z : Int32) : ∀ H, hOn σ r z 0 H = 0
  | 0 => rfl
  | H + 1 => by rw [hOn, hOn_0 σ r z H]; rfl
theorem hOn_step (σ : Sg) (r z : Int32) (n : Nat) : ∀ H, hOn σ r z (n + 1) H = hOn σ r z n H + (if nI n = z then 0 else mh1 σ r n 0 H)
  | 0 => by
    rw [hOn, hOn]
    split
    · rfl
    · rfl
  | H + 1 => by
    rw [hOn, hOn, hOn_step σ r z n H, hIH_step]
    by_cases c1 : nI n = z
    · rw [if_pos c1, if_pos c1, if_pos c1, Int32.add_zero, Int32.add_zero, Int32.add_zero]
    · rw [if_neg c1, if_neg c1, if_neg c1, mh1]
      rw [Int32.add_assoc, Int32.add_assoc, ← Int32.add_assoc (mh1 σ r n 0 H), Int32.add_comm (mh1 σ r n 0 H) (hIH σ r H z n), Int32.add_assoc]
theorem mhA_on (σ : Sg) (r z : Int32) : ∀ n, mhA σ r z n = hOn σ r z n 12
  | 0 => by rw [hOn_0]; rfl
  | n + 1 => by
    rw [hOn_step, mhA, mhA_on σ r z n]
    by_cases c1 : nI n = z
    · rw [if_pos c1, if_pos c1, Int32.add_zero]
    · rw [if_neg c1, if_neg c1, mh1_acc]
theorem hON_on (σ : Sg) (r z : Int32) : ∀ h, hON σ r z h = hOn σ r z (kG σ) h
  | 0 => rfl
  | h + 1 => by rw [hON, hOn, hON_on σ r z h]
theorem mhA_hON (σ : Sg) (r z : Int32) : mhA σ r z (kG σ) = hON σ r z 12 := by rw [mhA_on, hON_on]
theorem in_X5_haunted_X5 : ∀ w ∈ u_ws RX5 TX5 11, w ∈ wsX5_haunted := by decide +kernel
set_option maxHeartbeats 4000000 in
set_option maxRecDepth 100000 in
theorem c_haunted (l : Launch) (E : gE) (A : Nat → Prop) (g : Nat → Nat) (M : gM) (σ : Sg) (th : Int32) (hv : VS σ) (hw : MW E g M σ th) (r z : Int32) : Met l yX5_haunted wsX5_haunted ({ frames := 3, cells := 0, slots := 0, locals := 67 } : Room) (Pm E [.ref (g 0), .int r, .int z] (mP E A g M)) (k2_QcV (.int (hON σ r z 12))) 0 0 (fun _ => False) := by
  refine m_entry (by decide) rfl (Nat.le_of_ble_eq_true rfl) ?_
  intro p e s m args below meth c hx hb hr hml hts hown hlocks hin hM hK ls hl
  have hl : lv_has ls 6 [(0, .ref (g 0)), (1, .int r), (2, .int z)] := hl
  have hown : s.vm.findClass RX5 = some m.cls := hown
  obtain ⟨⟨hR9, hG9, hU9, hD9⟩, -⟩ := id hv
  obtain ⟨f1, m1, hf1⟩ := MW.house hw
  obtain ⟨f2, m2, hf2⟩ := MW.joined hw
  obtain ⟨f3, m3, hf3⟩ := MW.spooks hw
  obtain ⟨f4, m4, hf4⟩ := MW.people hw
  obtain ⟨f5, m5, hf5⟩ := MW.numbers hw
  refine lv_iconst (v := 0) hx hb dX5_haunted_0 (by decide) ?_
  refine lv_istore_n (lv' := [(3, .int 0), (0, .ref (g 0)), (1, .int r), (2, .int z)]) hx hb dX5_haunted_1 rfl hl (by decide) rfl (fun ls hl => ?_)
  refine lv_iconst (v := 0) hx hb dX5_haunted_2 (by decide) ?_
  refine lv_istore (lv' := [(4, .int 0), (3, .int 0), (0, .ref (g 0)), (1, .int r), (2, .int z)]) hx hb dX5_haunted_3 hl (by decide) rfl (fun ls hl => ?_)
  have lp5 : ∀ (n5 i : Nat), n5 + i = kG σ → ∀ x3 : Int32, x3 = mhA σ r z i → ∀ ls : Array Slot, lv_has ls 6 [(4, .int (nI i)), (3, .int x3), (0, .ref (g 0)), (1, .int r), (2, .int z)] → W p l e ({ frames := 3, cells := 0, slots := 0, locals := 67 } : Room) s m args below meth c s.heap [] 0 0 (MQ below (k2_QcV (.int (hON σ r z 12))) args s 0 0 (fun _ => False)) (F0 m 5 ls []) := by
    intro n5
    induction n5 with
    | zero =>
      intro i hi5 x3 ex3 ls hl
      obtain rfl : kG σ = i := by omega
      refine lv_iload hx hb dX5_haunted_5 (lv_at hl 0 rfl) ?_
      refine lv_aload_n hx hb dX5_haunted_7 rfl (lv_at hl 2 rfl) ?_
      refine m_get hx hb hts in_X5_haunted_X5 hown hK hM (MW.x hw) rfl 3 (by decide) (by decide +kernel) rfl dX5_haunted_8 ?_
      refine lv_icmp_ge (tgt := 68) hx hb dX5_haunted_11 (by decide) (fun c11 => ?_) (fun c9 => absurd (Int32.le_refl _) c9)
      refine lv_iload_n hx hb dX5_haunted_68 rfl (lv_at hl 1 rfl) ?_
      exact r_i hx hb hr hlocks dX5_haunted_69 (by rw [ex3, mhA_hON])
    | succ n5 ih5 =>
      intro i hi5 x3 ex3 ls hl
      have hlt5 : i < kG σ := by omega
      refine lv_iload hx hb dX5_haunted_5 (lv_at hl 0 rfl) ?_
      refine lv_aload_n hx hb dX5_haunted_7 rfl (lv_at hl 2 rfl) ?_
      refine m_get hx hb hts in_X5_haunted_X5 hown hK hM (MW.x hw) rfl 3 (by decide) (by decide +kernel) rfl dX5_haunted_8 ?_
      refine lv_icmp_ge (tgt := 68) hx hb dX5_haunted_11 (by decide) (fun c9 => absurd c9 (nI_ge hlt5 (by omega))) (fun c11 => ?_)
      refine lv_iconst (v := 0) hx hb dX5_haunted_14 (by decide) ?_
      refine lv_istore (lv' := [(5, .int 0), (4, .int (nI i)), (3, .int x3), (0, .ref (g 0)), (1, .int r), (2, .int z)]) hx hb dX5_haunted_15 hl (by decide) rfl (fun ls hl => ?_)
      have lp17 : ∀ (n17 j : Nat), n17 + j = 12 → ∀ w3 : Int32, w3 = mh1 σ r i x3 j → j = 0 ∨ ¬ nI i = z → ∀ ls : Array Slot, lv_has ls 6 [(5, .int (nI j)), (3, .int w3), (4, .int (nI i)), (0, .ref (g 0)), (1, .int r), (2, .int z)] → W p l e ({ frames := 3, cells := 0, slots := 0, locals := 67 } : Room) s m args below meth c s.heap [] 0 0 (MQ below (k2_QcV (.int (hON σ r z 12))) args s 0 0 (fun _ => False)) (F0 m 17 ls []) := by
        intro n17
        induction n17 with
        | zero =>
          intro j hi17 w3 ew3 hq ls hl
          obtain rfl : 12 = j := by omega
          refine lv_iload hx hb dX5_haunted_17 (lv_at hl 0 rfl) ?_
          refine lv_bipush (v := 12) hx hb dX5_haunted_19 (by decide) ?_
          refine lv_icmp_ge (tgt := 62) hx hb dX5_haunted_21 (by decide) (fun c21 => ?_) (fun c9 => absurd (Int32.le_refl _) c9)
          refine lv_iinc (v := nI (i + 1)) (lv' := [(4, .int (nI (i + 1))), (5, .int (nI 12)), (3, .int w3), (0, .ref (g 0)), (1, .int r), (2, .int z)]) hx hb dX5_haunted_62 hl (k := 2) rfl (m_inc _) (by decide) rfl (fun ls hl => ?_)
          refine lv_goto (tgt := 5) hx hb dX5_haunted_65 (by decide) ?_
          exact ih5 (i + 1) (by omega) _ (by rcases hq with q | q; exact absurd q (by decide); rw [mhA, if_neg q, ← ex3, ew3]) ls (lv_sub hl [0, 2, 3, 4, 5] rfl)
        | succ n17 ih17 =>
          intro j hi17 w3 ew3 hq ls hl
          have hlt17 : j < 12 := by omega
          refine lv_iload hx hb dX5_haunted_17 (lv_at hl 0 rfl) ?_
          refine lv_bipush (v := 12) hx hb dX5_haunted_19 (by decide) ?_
          refine lv_icmp_ge (tgt := 62) hx hb dX5_haunted_21 (by decide) (fun c9 => absurd c9 (nI_ge (b := 12) hlt17 (by omega))) (fun c21 => ?_)
          refine lv_iload hx hb dX5_haunted_24 (lv_at hl 2 rfl) ?_
          refine lv_iload_n hx hb dX5_haunted_26 rfl (lv_at hl 5 rfl) ?_
          refine lv_icmp_eq (tgt := 62) hx hb dX5_haunted_27 (by decide) (fun c27 => ?_) (fun c27 => ?_)
          · refine lv_iinc (v := nI (i + 1)) (lv' := [(4, .int (nI (i + 1))), (5, .int (nI j)), (3, .int w3), (0, .ref (g 0)), (1, .int r), (2, .int z)]) hx hb dX5_haunted_62 hl (k := 2) rfl (m_inc _) (by decide) rfl (fun ls hl => ?_)
            refine lv_goto (tgt := 5) hx hb dX5_haunted_65 (by decide) ?_
            exact ih5 (i + 1) (by omega) _ (by rcases hq with rfl | q; (rw [ew3, mhA, if_pos c27, ← ex3]; rfl); exact absurd c27 q) ls (lv_sub hl [0, 2, 3, 4, 5] rfl)
          · refine lv_iload_n hx hb dX5_haunted_30 rfl (lv_at hl 1 rfl) ?_
            refine lv_aload_n hx hb dX5_haunted_31 rfl (lv_at hl 3 rfl) ?_
            refine lv_iload hx hb dX5_haunted_32 (lv_at hl 2 rfl) ?_
            refine lv_iload hx hb dX5_haunted_34 (lv_at hl 0 rfl) ?_
            refine m_cV 2 [.int (nI i), .int (nI j)] [.int w3] hx hb hml hown hts hK (c_mplace l E A g M σ th hv hw i j (by omega) (by omega)) gX5_haunted_X5_place rfl rfl rfl (by decide +kernel) rfl ⟨Nat.le_of_ble_eq_true rfl, Nat.le_of_ble_eq_true rfl⟩ hM (MW.x hw) rfl rfl hM hl.1 (Nat.le_of_ble_eq_true rfl) ⟨Nat.le_of_ble_eq_true rfl, Nat.le_of_ble_eq_true rfl⟩ rfl dX5_haunted_36 ?_
            refine lv_iload_n hx hb dX5_haunted_39 rfl (lv_at hl 4 rfl) ?_
            refine lv_icmp_ne (tgt := 53) hx hb dX5_haunted_40 (by decide) (fun c40 => ?_) (fun c40 => ?_)
            · refine lv_iconst (v := 0) hx hb dX5_haunted_53 (by decide) ?_
              refine lv_iadd hx hb dX5_haunted_54 ?_
              refine lv_istore_n (lv' := [(3, .int (w3 + 0)), (5, .int (nI j)), (4, .int (nI i)), (0, .ref (g 0)), (1, .int r), (2, .int z)]) hx hb dX5_haunted_55 rfl hl (by decide) rfl (fun ls hl => ?_)
              refine lv_iinc (v := nI (j + 1)) (lv' := [(5, .int (nI (j + 1))), (3, .int (w3 + 0)), (4, .int (nI i)), (0, .ref (g 0)), (1, .int r), (2, .int z)]) hx hb dX5_haunted_56 hl (k := 1) rfl (m_inc _) (by decide) rfl (fun ls hl => ?_)
              refine lv_goto (tgt := 17) hx hb dX5_haunted_59 (by decide) ?_
              exact ih17 (j + 1) (by omega) _ (by rw [mh1, if_neg c40, ew3]) (Or.inr c27) ls (lv_sub hl [0, 1, 2, 3, 4, 5] rfl)
            · refine lv_aload_n hx hb dX5_haunted_43 rfl (lv_at hl 3 rfl) ?_
              refine lv_iload hx hb dX5_haunted_44 (lv_at hl 2 rfl) ?_
              refine lv_iconst (v := 1) hx hb dX5_haunted_46 (by decide) ?_
              refine m_cV 2 [.int (nI i), .int 1] [.int w3] hx hb hml hown hts hK (c_sp l E A g M σ th hw i 1 (by omega) (by omega)) gX5_haunted_X5_sp rfl rfl rfl (by decide +kernel) rfl ⟨Nat.le_of_ble_eq_true rfl, Nat.le_of_ble_eq_true rfl⟩ hM (MW.x hw) rfl rfl hM hl.1 (Nat.le_of_ble_eq_true rfl) ⟨Nat.le_of_ble_eq_true rfl, Nat.le_of_ble_eq_true rfl⟩ rfl dX5_haunted_47 ?_
              refine lv_goto (tgt := 54) hx hb dX5_haunted_50 (by decide) ?_
              refine lv_iadd hx hb dX5_haunted_54 ?_
              refine lv_istore_n (lv' := [(3, .int (w3 + (sGh σ i 1))), (5, .int (nI j)), (4, .int (nI i)), (0, .ref (g 0)), (1, .int r), (2, .int z)]) hx hb dX5_haunted_55 rfl hl (by decide) rfl (fun ls hl => ?_)
              refine lv_iinc (v := nI (j + 1)) (lv' := [(5, .int (nI (j + 1))), (3, .int (w3 + (sGh σ i 1))), (4, .int (nI i)), (0, .ref (g 0)), (1, .int r), (2, .int z)]) hx hb dX5_haunted_56 hl (k := 1) rfl (m_inc _) (by decide) rfl (fun ls hl => ?_)
              refine lv_goto (tgt := 17) hx hb dX5_haunted_59 (by decide) ?_
              exact ih17 (j + 1) (by omega) _ (by rw [mh1, if_pos c40, ew3]) (Or.inr c27) ls (lv_sub hl [0, 1, 2, 3, 4, 5] rfl)
      exact lp17 (12) 0 (by omega) _ (rfl) (Or.inl rfl) ls (lv_sub hl [0, 2, 1, 3, 4, 5] rfl)
  exact lp5 (kG σ) 0 (by omega) _ (rfl) ls (lv_sub hl [0, 1, 2, 3, 4] rfl)
set_option maxHeartbeats 4000000 in
set_option maxRecDepth 100000 in
theorem c_isBad (l : Launch) (E : gE) (A : Nat → Prop) (g : Nat → Nat) (M : gM) (nv x : Int32) : Met l yX5_isBad wsX5_isBad ({ frames := 0, cells := 0, slots := 0, locals := 0 } : Room) (Pm E [.int nv, .int x] (fun _ => True)) (k2_QcV (.int (bI (upB nv x)))) 0 0 (fun _ => False) := by
  refine m_entry (by decide) rfl (Nat.le_of_ble_eq_true rfl) ?_
  intro p e s m args below meth c hx hb hr hml hts hown hlocks hin _ hK ls hl
  have hl : lv_has ls 2 [(0, .int nv), (1, .int x)] := hl
  have hown : s.vm.findClass RX5 = some m.cls := hown
  refine lv_iload_n hx hb dX5_isBad_0 rfl (lv_at hl 0 rfl) ?_
  refine lv_if_ge (tgt := 18) hx hb dX5_isBad_1 (by decide) (fun c1 => ?_) (fun c1 => ?_)
  · refine lv_iload_n hx hb dX5_isBad_18 rfl (lv_at hl 1 rfl) ?_
    refine lv_iload_n hx hb dX5_isBad_19 rfl (lv_at hl 0 rfl) ?_
    refine lv_icmp_le (tgt := 27) hx hb dX5_isBad_20 (by decide) (fun c20 => ?_) (fun c20 => ?_)
    · refine lv_iconst (v := 0) hx hb dX5_isBad_27 (by decide) ?_
      exact r_z hx hb hr hlocks dX5_isBad_28 (bI_zero (decide_eq_false (by first | omega | (simp only [Int32.le_iff_toInt_le, Int32.lt_iff_toInt_lt, ← Int32.toInt_inj] at c1 c20 ⊢; omega))))
    · refine lv_iconst (v := 1) hx hb dX5_isBad_23 (by decide) ?_
      refine lv_goto (tgt := 28) hx hb dX5_isBad_24 (by decide) ?_
      exact r_z hx hb hr hlocks dX5_isBad_28 (bI_one (decide_eq_true (by first | omega | (simp only [Int32.le_iff_toInt_le, Int32.lt_iff_toInt_lt, ← Int32.toInt_inj] at c1 c20 ⊢; omega))))
  · refine lv_iload_n hx hb dX5_isBad_4 rfl (lv_at hl 1 rfl) ?_
    refine lv_iload_n hx hb dX5_isBad_5 rfl (lv_at hl 0 rfl) ?_
    refine lv_ineg hx hb dX5_isBad_6 ?_
    refine lv_icmp_ge (tgt := 14) hx hb dX5_isBad_7 (by decide) (fun c7 => ?_) (fun c7 => ?_)
    · refine lv_iconst (v := 0) hx hb dX5_isBad_14 (by decide) ?_
      refine lv_goto (tgt := 28) hx hb dX5_isBad_15 (by decide) ?_
      exact r_z hx hb hr hlocks dX5_isBad_28 (bI_zero (decide_eq_false (by first | omega | (simp only [Int32.le_iff_toInt_le, Int32.lt_iff_toInt_lt, ← Int32.toInt_inj] at c1 c7 ⊢; omega))))
    · refine lv_iconst (v := 1) hx hb dX5_isBad_10 (by decide) ?_
      refine lv_goto (tgt := 28) hx hb dX5_isBad_11 (by decide) ?_
      exact r_z hx hb hr hlocks dX5_isBad_28 (bI_one (decide_eq_true (by first | omega | (simp only [Int32.le_iff_toInt_le, Int32.lt_iff_toInt_lt, ← Int32.toInt_inj] at c1 c7 ⊢; omega))))
set_option maxHeartbeats 4000000 in
set_option maxRecDepth 100000 in
theorem c_suits (l : Launch) (E : gE) (A : Nat → Prop) (g : Nat → Nat) (M : gM) (σ : Sg) (th : Int32) (hv : VS σ) (hw : MW E g M σ th) (u k : Nat) (hu : u < 12) (hk : k < 10) : Met l yX5_suits wsX5_suits ({ frames := 1, cells := 0, slots := 0, locals := 22 } : Room) (Pm E [.ref (g 0), .int (nI u), .int (nI k)] (mP E A g M)) (k2_QcV (.int (bI (sui σ u k)))) 0 0 (fun _ => False) := by
  refine m_entry (by decide) rfl (Nat.le_of_ble_eq_true rfl) ?_
  intro p e s m args below meth c hx hb hr hml hts hown hlocks hin hM hK ls hl
  have hl : lv_has ls 3 [(0, .ref (g 0)), (1, .int (nI u)), (2, .int (nI k))] := hl
  have hown : s.vm.findClass RX5 = some m.cls := hown
  obtain ⟨⟨hR9, hG9, hU9, hD9⟩, -⟩ := id hv
  obtain ⟨f1, m1, hf1⟩ := MW.house hw
  obtain ⟨f2, m2, hf2⟩ := MW.joined hw
  obtain ⟨f3, m3, hf3⟩ := MW.spooks hw
  obtain ⟨f4, m4, hf4⟩ := MW.people hw
  obtain ⟨f5, m5, hf5⟩ := MW.numbers hw
  refine lv_aload_n hx hb dX5_suits_0 rfl (lv_at hl 0 rfl) ?_
  refine lv_iload_n hx hb dX5_suits_1 rfl (lv_at hl 1 rfl) ?_
  refine lv_iconst (v := 0) hx hb dX5_suits_2 (by decide) ?_
  refine m_cV 2 [.int (nI u), .int 0] [] hx hb hml hown hts hK (c_pe l E A g M σ th hw u 0 (by omega) (by omega)) gX5_suits_X5_pe rfl rfl rfl (by decide +kernel) rfl ⟨Nat.le_of_ble_eq_true rfl, Nat.le_of_ble_eq_true rfl⟩ hM (MW.x hw) rfl rfl hM hl.1 (Nat.le_of_ble_eq_true rfl) ⟨Nat.le_of_ble_eq_true rfl, Nat.le_of_ble_eq_true rfl⟩ rfl dX5_suits_3 ?_
  refine lv_aload_n hx hb dX5_suits_6 rfl (lv_at hl 0 rfl) ?_
  refine lv_iload_n hx hb dX5_suits_7 rfl (lv_at hl 1 rfl) ?_
  refine lv_iconst (v := 4) hx hb dX5_suits_8 (by decide) ?_
  refine m_cV 2 [.int (nI u), .int 4] [.int (sGu σ u 0)] hx hb hml hown hts hK (c_pe l E A g M σ th hw u 4 (by omega) (by omega)) gX5_suits_X5_pe rfl rfl rfl (by decide +kernel) rfl ⟨Nat.le_of_ble_eq_true rfl, Nat.le_of_ble_eq_true rfl⟩ hM (MW.x hw) rfl rfl hM hl.1 (Nat.le_of_ble_eq_true rfl) ⟨Nat.le_of_ble_eq_true rfl, Nat.le_of_ble_eq_true rfl⟩ rfl dX5_suits_9 ?_
  refine lv_icmp_lt (tgt := 49) hx hb dX5_suits_12 (by decide) (fun c12 => ?_) (fun c12 => ?_)
  · refine lv_iconst (v := 0) hx hb dX5_suits_49 (by decide) ?_
    exact r_z hx hb hr hlocks dX5_suits_50 (bI_zero (decide_eq_false (by first | omega | (simp only [Int32.le_iff_toInt_le, Int32.lt_iff_toInt_lt, ← Int32.toInt_inj] at c12 ⊢; omega))))
  · refine lv_aload_n hx hb dX5_suits_15 rfl (lv_at hl 0 rfl) ?_
    refine lv_iload_n hx hb dX5_suits_16 rfl (lv_at hl 2 rfl) ?_
    refine lv_iconst (v := 0) hx hb dX5_suits_17 (by decide) ?_
    refine m_cV 2 [.int (nI k), .int 0] [] hx hb hml hown hts hK (c_ro l E A g M σ th hw k 0 (by omega) (by omega)) gX5_suits_X5_ro rfl rfl rfl (by decide +kernel) rfl ⟨Nat.le_of_ble_eq_true rfl, Nat.le_of_ble_eq_true rfl⟩ hM (MW.x hw) rfl rfl hM hl.1 (Nat.le_of_ble_eq_true rfl) ⟨Nat.le_of_ble_eq_true rfl, Nat.le_of_ble_eq_true rfl⟩ rfl dX5_suits_18 ?_
    refine lv_aload_n hx hb dX5_suits_21 rfl (lv_at hl 0 rfl) ?_
    refine lv_iload_n hx hb dX5_suits_22 rfl (lv_at hl 1 rfl) ?_
    refine lv_iconst (v := 1) hx hb dX5_suits_23 (by decide) ?_
    refine m_cV 2 [.int (nI u), .int 1] [.int (sRm σ k 0)] hx hb hml hown hts hK (c_pe l E A g M σ th hw u 1 (by omega) (by omega)) gX5_suits_X5_pe rfl rfl rfl (by decide +kernel) rfl ⟨Nat.le_of_ble_eq_true rfl, Nat.le_of_ble_eq_true rfl⟩ hM (MW.x hw) rfl rfl hM hl.1 (Nat.le_of_ble_eq_true rfl) ⟨Nat.le_of_ble_eq_true rfl, Nat.le_of_ble_eq_true rfl⟩ rfl dX5_suits_24 ?_
    refine lv_icmp_lt (tgt := 49) hx hb dX5_suits_27 (by decide) (fun c27 => ?_) (fun c27 => ?_)
    · refine lv_iconst (v := 0) hx hb dX5_suits_49 (by decide) ?_
      exact r_z hx hb hr hlocks dX5_suits_50 (bI_zero (decide_eq_false (by first | omega | (simp only [Int32.le_iff_toInt_le, Int32.lt_iff_toInt_lt, ← Int32.toInt_inj] at c12 c27 ⊢; omega))))
    · refine lv_aload_n hx hb dX5_suits_30 rfl (lv_at hl 0 rfl) ?_
      refine lv_iload_n hx hb dX5_suits_31 rfl (lv_at hl 1 rfl) ?_
      refine lv_iconst (v := 4) hx hb dX5_suits_32 (by decide) ?_
      refine m_cV 2 [.int (nI u), .int 4] [] hx hb hml hown hts hK (c_pe l E A g M σ th hw u 4 (by omega) (by omega)) gX5_suits_X5_pe rfl rfl rfl (by decide +kernel) rfl ⟨Nat.le_of_ble_eq_true rfl, Nat.le_of_ble_eq_true rfl⟩ hM (MW.x hw) rfl rfl hM hl.1 (Nat.le_of_ble_eq_true rfl) ⟨Nat.le_of_ble_eq_true rfl, Nat.le_of_ble_eq_true rfl⟩ rfl dX5_suits_33 ?_
      refine lv_aload_n hx hb dX5_suits_36 rfl (lv_at hl 0 rfl) ?_
      refine lv_iload_n hx hb dX5_suits_37 rfl (lv_at hl 2 rfl) ?_
      refine lv_iconst (v := 2) hx hb dX5_suits_38 (by decide) ?_
      refine m_cV 2 [.int (nI k), .int 2] [.int (sGu σ u 4)] hx hb hml hown hts hK (c_ro l E A g M σ th hw k 2 (by omega) (by omega)) gX5_suits_X5_ro rfl rfl rfl (by decide +kernel) rfl ⟨Nat.le_of_ble_eq_true rfl, Nat.le_of_ble_eq_true rfl⟩ hM (MW.x hw) rfl rfl hM hl.1 (Nat.le_of_ble_eq_true rfl) ⟨Nat.le_of_ble_eq_true rfl, Nat.le_of_ble_eq_true rfl⟩ rfl dX5_suits_39 ?_
      refine lv_icmp_lt (tgt := 49) hx hb dX5_suits_42 (by decide) (fun c42 => ?_) (fun c42 => ?_)
      · refine lv_iconst (v := 0) hx hb dX5_suits_49 (by decide) ?_
        exact r_z hx hb hr hlocks dX5_suits_50 (bI_zero (decide_eq_false (by first | omega | (simp only [Int32.le_iff_toInt_le, Int32.lt_iff_toInt_lt, ← Int32.toInt_inj] at c12 c27 c42 ⊢; omega))))
      · refine lv_iconst (v := 1) hx hb dX5_suits_45 (by decide) ?_
        refine lv_goto (tgt := 50) hx hb dX5_suits_46 (by decide) ?_
        exact r_z hx hb hr hlocks dX5_suits_50 (bI_one (decide_eq_true (by first | omega | (simp only [Int32.le_iff_toInt_le, Int32.lt_iff_toInt_lt, ← Int32.toInt_inj] at c12 c27 c42 ⊢; omega))))
set_option maxHeartbeats 4000000 in
set_option maxRecDepth 100000 in
theorem c_counts (l : Launch) (E : gE) (A : Nat → Prop) (g : Nat → Nat) (M : gM) (σ : Sg) (th : Int32) (hv : VS σ) (hw : MW E g M σ th) (u k : Nat) (hu : u < 12) (hk : k < 10) : Met l yX5_counts wsX5_counts ({ frames := 2, cells := 0, slots := 0, locals := 44 } : Room) (Pm E [.ref (g 0), .int (nI u), .int (nI k)] (mP E A g M)) (k2_QcV (.int (bI (cntB σ u k)))) 0 0 (fun _ => False) := by
  refine m_entry (by decide) rfl (Nat.le_of_ble_eq_true rfl) ?_
  intro p e s m args below meth c hx hb hr hml hts hown hlocks hin hM hK ls hl
  have hl : lv_has ls 3 [(0, .ref (g 0)), (1, .int (nI u)), (2, .int (nI k))] := hl
  have hown : s.vm.findClass RX5 = some m.cls := hown
  obtain ⟨⟨hR9, hG9, hU9, hD9⟩, -⟩ := id hv
  obtain ⟨f1, m1, hf1⟩ := MW.house hw
  obtain ⟨f2, m2, hf2⟩ := MW.joined hw
  obtain ⟨f3, m3, hf3⟩ := MW.spooks hw
  obtain ⟨f4, m4, hf4⟩ := MW.people hw
  obtain ⟨f5, m5, hf5⟩ := MW.numbers hw
  refine lv_aload_n hx hb dX5_counts_0 rfl (lv_at hl 0 rfl) ?_
  refine lv_iload_n hx hb dX5_counts_1 rfl (lv_at hl 1 rfl) ?_
  refine lv_iconst (v := 3) hx hb dX5_counts_2 (by decide) ?_
  refine m_cV 2 [.int (nI u), .int 3] [] hx hb hml hown hts hK (c_pe l E A g M σ th hw u 3 (by omega) (by omega)) gX5_counts_X5_pe rfl rfl rfl (by decide +kernel) rfl ⟨Nat.le_of_ble_eq_true rfl, Nat.le_of_ble_eq_true rfl⟩ hM (MW.x hw) rfl rfl hM hl.1 (Nat.le_of_ble_eq_true rfl) ⟨Nat.le_of_ble_eq_true rfl, Nat.le_of_ble_eq_true rfl⟩ rfl dX5_counts_3 ?_
  refine lv_iload_n hx hb dX5_counts_6 rfl (lv_at hl 2 rfl) ?_
  refine lv_icmp_ne (tgt := 23) hx hb dX5_counts_7 (by decide) (fun c7 => ?_) (fun c7 => ?_)
  · refine lv_iconst (v := 0) hx hb dX5_counts_23 (by decide) ?_
    exact r_z hx hb hr hlocks dX5_counts_24 (bI_zero (by simp only [cntB, c7, decide_true, decide_false, Bool.and_false, Bool.false_and, Bool.and_self, if_true, if_false, true_and, and_true, false_and, and_false, not_true_eq_false, not_false_eq_true, reduceCtorEq, eq_self_iff_true, and_self, Bool.false_eq_true, Bool.not_eq_true]))
  · refine lv_aload_n hx hb dX5_counts_10 rfl (lv_at hl 0 rfl) ?_
    refine lv_iload_n hx hb dX5_counts_11 rfl (lv_at hl 1 rfl) ?_
    refine lv_iload_n hx hb dX5_counts_12 rfl (lv_at hl 2 rfl) ?_
    refine m_cV 2 [.int (nI u), .int (nI k)] [] hx hb hml hown hts hK (c_suits l E A g M σ th hv hw u k (by omega) (by omega)) gX5_counts_X5_suits rfl rfl rfl (by decide +kernel) rfl ⟨Nat.le_of_ble_eq_true rfl, Nat.le_of_ble_eq_true rfl⟩ hM (MW.x hw) rfl rfl hM hl.1 (Nat.le_of_ble_eq_true rfl) ⟨Nat.le_of_ble_eq_true rfl, Nat.le_of_ble_eq_true rfl⟩ rfl dX5_counts_13 ?_
    refine lv_if_eq (tgt := 23) hx hb dX5_counts_16 (by decide) (fun c16 => ?_) (fun c16 => ?_)
    · have c16 := bI_f c16
      refine lv_iconst (v := 0) hx hb dX5_counts_23 (by decide) ?_
      exact r_z hx hb hr hlocks dX5_counts_24 (bI_zero (by simp only [cntB, c7, c16, decide_true, decide_false, Bool.and_false, Bool.false_and, Bool.and_self, if_true, if_false, true_and, and_true, false_and, and_false, not_true_eq_false, not_false_eq_true, reduceCtorEq, eq_self_iff_true, and_self, Bool.false_eq_true, Bool.not_eq_true]))
    · have c16 := bI_t c16
      refine lv_iconst (v := 1) hx hb dX5_counts_19 (by decide) ?_
      refine lv_goto (tgt := 24) hx hb dX5_counts_20 (by decide) ?_
      exact r_z hx hb hr hlocks dX5_counts_24 (bI_one (by simp only [cntB, c7, c16, decide_true, Bool.and_self, if_true, if_false, true_and, and_true, false_and, and_false, not_true_eq_false, not_false_eq_true, reduceCtorEq, eq_self_iff_true, and_self, Bool.false_eq_true, Bool.not_eq_true]))
/-- the reference's winner -/
def mwA (σ : Sg) (k : Nat) : Nat → Option Nat
  | 0 => none
  | i + 1 => if cntB σ i k = true then (match mwA σ k i with
      | none => some i
      | some j => if sGu σ i 4 ≤ sGu σ j 4 then some j else some i) else mwA σ k i
theorem mwA_lt (σ : Sg) (k : Nat) : ∀ n j, mwA σ k n = some j → j < n
  | 0, j, h => by cases h
  | n + 1, j, h => by
    have ih := mwA_lt σ k n
    rw [mwA] at h
    split at h
    · split at h
      · cases h; exact Nat.lt_succ_self _
      · rename_i j0 e
        split at h
        · cases h; exact Nat.lt_succ_of_lt (ih _ e)
        · cases h; exact Nat.lt_succ_self _
    · exact Nat.lt_succ_of_lt (ih j h)
theorem VS.price {σ : Sg} (hv : VS σ) {i k : Nat} (hi : i < kU σ) (hk : k < 2 ^ 31) (h : cntB σ i k = true) : ¬ sGu σ i 4 ≤ 0 := by
  have h1 : sGu σ i 3 = nI k := by
    simp only [cntB, Bool.and_eq_true, decide_eq_true_eq] at h
    exact h.1
  rcases hv.2.2.2.1 i hi with ⟨e, -⟩ | ⟨r, -, -, h2, -⟩
  · exact absurd (h1.symm.trans e) (nI_ne1 hk)
  · intro q; exact absurd (Int32.le_trans h2 q) (by decide)
theorem mwA_wn {σ : Sg} (hv : VS σ) {k : Nat} (hk : k < 2 ^ 31) : ∀ n, n ≤ kU σ → (mwA σ k n = none ∧ wnA σ k n = (-1, 0)) ∨ ∃ j, mwA σ k n = some j ∧ wnA σ k n = (nI j, sGu σ j 4)
  | 0, _ => Or.inl ⟨rfl, rfl⟩
  | n + 1, hn => by
    rcases mwA_wn hv hk n (by omega) with ⟨h1, h2⟩ | ⟨j, h1, h2⟩
    · by_cases c : cntB σ n k = true
      · exact Or.inr ⟨n, by rw [mwA, if_pos c, h1], by rw [wnA, h2, if_pos ⟨c, VS.price hv (by omega) hk c⟩]⟩
      · exact Or.inl ⟨by rw [mwA, if_neg c, h1], by rw [wnA, if_neg (fun q => c q.1), h2]⟩
    · by_cases c : cntB σ n k = true
      · by_cases c2 : sGu σ n 4 ≤ sGu σ j 4
        · exact Or.inr ⟨j, by rw [mwA, if_pos c, h1]; exact if_pos c2, by rw [wnA, h2, if_neg (fun q => q.2 c2)]⟩
        · exact Or.inr ⟨n, by rw [mwA, if_pos c, h1]; exact if_neg c2, by rw [wnA, h2, if_pos ⟨c, c2⟩]⟩
      · exact Or.inr ⟨j, by rw [mwA, if_neg c, h1], by rw [wnA, if_neg (fun q => c q.1), h2]⟩
theorem mwA_wnr {σ : Sg} (hv : VS σ) {k : Nat} (hk : k < 2 ^ 31) : oI (mwA σ k (kU σ)) = wnr σ k := by
  rcases mwA_wn hv hk (kU σ) (Nat.le_refl _) with ⟨h1, h2⟩ | ⟨j, h1, h2⟩ <;> rw [wnr, h1, h2] <;> rfl
theorem in_X5_winner_X5 : ∀ w ∈ u_ws RX5 TX5 11, w ∈ wsX5_winner := by decide +kernel
set_option maxHeartbeats 4000000 in
set_option maxRecDepth 100000 in
theorem c_winner (l : Launch) (E : gE) (A : Nat → Prop) (g : Nat → Nat) (M : gM) (σ : Sg) (th : Int32) (hv : VS σ) (hw : MW E g M σ th) (k : Nat) (hk : k < kR σ) : Met l yX5_winner wsX5_winner ({ frames := 3, cells := 0, slots := 0, locals := 66 } : Room) (Pm E [.ref (g 0), .int (nI k)] (mP E A g M)) (k2_QcV (.int (wnr σ k))) 0 0 (fun _ => False) := by
  refine m_entry (by decide) rfl (Nat.le_of_ble_eq_true rfl) ?_
  intro p e s m args below meth c hx hb hr hml hts hown hlocks hin hM hK ls hl
  have hl : lv_has ls 4 [(0, .ref (g 0)), (1, .int (nI k))] := hl
  have hown : s.vm.findClass RX5 = some m.cls := hown
  obtain ⟨⟨hR9, hG9, hU9, hD9⟩, -⟩ := id hv
  obtain ⟨f1, m1, hf1⟩ := MW.house hw
  obtain ⟨f2, m2, hf2⟩ := MW.joined hw
  obtain ⟨f3, m3, hf3⟩ := MW.spooks hw
  obtain ⟨f4, m4, hf4⟩ := MW.people hw
  obtain ⟨f5, m5, hf5⟩ := MW.numbers hw
  refine lv_iconst (v := (-1)) hx hb dX5_winner_0 (by decide) ?_
  refine lv_istore_n (lv' := [(2, .int (-1)), (0, .ref (g 0)), (1, .int (nI k))]) hx hb dX5_winner_1 rfl hl (by decide) rfl (fun ls hl => ?_)
  refine lv_iconst (v := 0) hx hb dX5_winner_2 (by decide) ?_
  refine lv_istore_n (lv' := [(3, .int 0), (2, .int (-1)), (0, .ref (g 0)), (1, .int (nI k))]) hx hb dX5_winner_3 rfl hl (by decide) rfl (fun ls hl => ?_)
  have lp4 : ∀ (n4 i : Nat), n4 + i = kU σ → ∀ x2 : Int32, x2 = oI (mwA σ k i) → ∀ ls : Array Slot, lv_has ls 4 [(3, .int (nI i)), (2, .int x2), (0, .ref (g 0)), (1, .int (nI k))] → W p l e ({ frames := 3, cells := 0, slots := 0, locals := 66 } : Room) s m args below meth c s.heap [] 0 0 (MQ below (k2_QcV (.int (wnr σ k))) args s 0 0 (fun _ => False)) (F0 m 4 ls []) := by
    intro n4
    induction n4 with
    | zero =>
      intro i hi4 x2 ex2 ls hl
      obtain rfl : kU σ = i := by omega
      refine lv_iload_n hx hb dX5_winner_4 rfl (lv_at hl 0 rfl) ?_
      refine lv_aload_n hx hb dX5_winner_5 rfl (lv_at hl 2 rfl) ?_
      refine m_get hx hb hts in_X5_winner_X5 hown hK hM (MW.x hw) rfl 4 (by decide) (by decide +kernel) rfl dX5_winner_6 ?_
      refine lv_icmp_ge (tgt := 49) hx hb dX5_winner_9 (by decide) (fun c9 => ?_) (fun c9 => absurd (Int32.le_refl _) c9)
      refine lv_iload_n hx hb dX5_winner_49 rfl (lv_at hl 1 rfl) ?_
      exact r_i hx hb hr hlocks dX5_winner_50 (by rw [ex2, mwA_wnr hv (by omega)])
    | succ n4 ih4 =>
      intro i hi4 x2 ex2 ls hl
      have hlt4 : i < kU σ := by omega
      refine lv_iload_n hx hb dX5_winner_4 rfl (lv_at hl 0 rfl) ?_
      refine lv_aload_n hx hb dX5_winner_5 rfl (lv_at hl 2 rfl) ?_
      refine m_get hx hb hts in_X5_winner_X5 hown hK hM (MW.x hw) rfl 4 (by decide) (by decide +kernel) rfl dX5_winner_6 ?_
      refine lv_icmp_ge (tgt := 49) hx hb dX5_winner_9 (by decide) (fun c9 => absurd c9 (nI_ge hlt4 (by omega))) (fun c9 => ?_)
      refine lv_aload_n hx hb dX5_winner_12 rfl (lv_at hl 2 rfl) ?_
      refine lv_iload_n hx hb dX5_winner_13 rfl (lv_at hl 0 rfl) ?_
      refine lv_iload_n hx hb dX5_winner_14 rfl (lv_at hl 3 rfl) ?_
      refine m_cV 2 [.int (nI i), .int (nI k)] [] hx hb hml hown hts hK (c_counts l E A g M σ th hv hw i k (by omega) (by omega)) gX5_winner_X5_counts rfl rfl rfl (by decide +kernel) rfl ⟨Nat.le_of_ble_eq_true rfl, Nat.le_of_ble_eq_true rfl⟩ hM (MW.x hw) rfl rfl hM hl.1 (Nat.le_of_ble_eq_true rfl) ⟨Nat.le_of_ble_eq_true rfl, Nat.le_of_ble_eq_true rfl⟩ rfl dX5_winner_15 ?_
      refine lv_if_eq (tgt := 43) hx hb dX5_winner_18 (by decide) (fun c18 => ?_) (fun c18 => ?_)
      · have c18 := bI_f c18
        refine lv_iinc (v := nI (i + 1)) (lv' := [(3, .int (nI (i + 1))), (2, .int x2), (0, .ref (g 0)), (1, .int (nI k))]) hx hb dX5_winner_43 hl (k := 0) rfl (m_inc _) (by decide) rfl (fun ls hl => ?_)
        refine lv_goto (tgt := 4) hx hb dX5_winner_46 (by decide) ?_
        exact ih4 (i + 1) (by omega) _ (by rw [mwA, if_neg (by rw [c18]; decide), ex2]) ls (lv_sub hl [0, 1, 2, 3] rfl)
      · have c18 := bI_t c18
        refine lv_iload_n hx hb dX5_winner_21 rfl (lv_at hl 1 rfl) ?_
        refine lv_iconst (v := (-1)) hx hb dX5_winner_22 (by decide) ?_
        refine lv_icmp_eq (tgt := 41) hx hb dX5_winner_23 (by decide) (fun c23 => ?_) (fun c23 => ?_)
        · have hn9 := oI_none ex2 c23 (fun j hj => Nat.lt_trans (mwA_lt σ k _ j hj) (by omega))
          refine lv_iload_n hx hb dX5_winner_41 rfl (lv_at hl 0 rfl) ?_
          refine lv_istore_n (lv' := [(2, .int (nI i)), (3, .int (nI i)), (0, .ref (g 0)), (1, .int (nI k))]) hx hb dX5_winner_42 rfl hl (by decide) rfl (fun ls hl => ?_)
          refine lv_iinc (v := nI (i + 1)) (lv' := [(3, .int (nI (i + 1))), (2, .int (nI i)), (0, .ref (g 0)), (1, .int (nI k))]) hx hb dX5_winner_43 hl (k := 1) rfl (m_inc _) (by decide) rfl (fun ls hl => ?_)
          refine lv_goto (tgt := 4) hx hb dX5_winner_46 (by decide) ?_
          exact ih4 (i + 1) (by omega) _ (by rw [mwA, if_pos c18, hn9]; rfl) ls (lv_sub hl [0, 1, 2, 3] rfl)
        · obtain ⟨j9, hn9, hx9⟩ := oI_some ex2 c23
          have hj9 := mwA_lt σ k _ j9 hn9
          subst hx9
          refine lv_aload_n hx hb dX5_winner_26 rfl (lv_at hl 2 rfl) ?_
          refine lv_iload_n hx hb dX5_winner_27 rfl (lv_at hl 0 rfl) ?_
          refine lv_iconst (v := 4) hx hb dX5_winner_28 (by decide) ?_
          refine m_cV 2 [.int (nI i), .int 4] [] hx hb hml hown hts hK (c_pe l E A g M σ th hw i 4 (by omega) (by omega)) gX5_winner_X5_pe rfl rfl rfl (by decide +kernel) rfl ⟨Nat.le_of_ble_eq_true rfl, Nat.le_of_ble_eq_true rfl⟩ hM (MW.x hw) rfl rfl hM hl.1 (Nat.le_of_ble_eq_true rfl) ⟨Nat.le_of_ble_eq_true rfl, Nat.le_of_ble_eq_true rfl⟩ rfl dX5_winner_29 ?_
          refine lv_aload_n hx hb dX5_winner_32 rfl (lv_at hl 2 rfl) ?_
          refine lv_iload_n hx hb dX5_winner_33 rfl (lv_at hl 1 rfl) ?_
          refine lv_iconst (v := 4) hx hb dX5_winner_34 (by decide) ?_
          refine m_cV 2 [.int (nI j9), .int 4] [.int (sGu σ i 4)] hx hb hml hown hts hK (c_pe l E A g M σ th hw j9 4 (by omega) (by omega)) gX5_winner_X5_pe rfl rfl rfl (by decide +kernel) rfl ⟨Nat.le_of_ble_eq_true rfl, Nat.le_of_ble_eq_true rfl⟩ hM (MW.x hw) rfl rfl hM hl.1 (Nat.le_of_ble_eq_true rfl) ⟨Nat.le_of_ble_eq_true rfl, Nat.le_of_ble_eq_true rfl⟩ rfl dX5_winner_35 ?_
          refine lv_icmp_le (tgt := 43) hx hb dX5_winner_38 (by decide) (fun c38 => ?_) (fun c38 => ?_)
          · refine lv_iinc (v := nI (i + 1)) (lv' := [(3, .int (nI (i + 1))), (2, .int (nI j9)), (0, .ref (g 0)), (1, .int (nI k))]) hx hb dX5_winner_43 hl (k := 0) rfl (m_inc _) (by decide) rfl (fun ls hl => ?_)
            refine lv_goto (tgt := 4) hx hb dX5_winner_46 (by decide) ?_
            exact ih4 (i + 1) (by omega) _ (by rw [mwA, if_pos c18, hn9]; simp only [c38, if_true, if_false, true_and, and_true, false_and, and_false, not_true_eq_false, not_false_eq_true, reduceCtorEq, eq_self_iff_true, and_self, Bool.false_eq_true, Bool.not_eq_true]; rfl) ls (lv_sub hl [0, 1, 2, 3] rfl)
          · refine lv_iload_n hx hb dX5_winner_41 rfl (lv_at hl 0 rfl) ?_
            refine lv_istore_n (lv' := [(2, .int (nI i)), (3, .int (nI i)), (0, .ref (g 0)), (1, .int (nI k))]) hx hb dX5_winner_42 rfl hl (by decide) rfl (fun ls hl => ?_)
            refine lv_iinc (v := nI (i + 1)) (lv' := [(3, .int (nI (i + 1))), (2, .int (nI i)), (0, .ref (g 0)), (1, .int (nI k))]) hx hb dX5_winner_43 hl (k := 1) rfl (m_inc _) (by decide) rfl (fun ls hl => ?_)
            refine lv_goto (tgt := 4) hx hb dX5_winner_46 (by decide) ?_
            exact ih4 (i + 1) (by omega) _ (by rw [mwA, if_pos c18, hn9]; simp only [c38, if_true, if_false, true_and, and_true, false_and, and_false, not_true_eq_false, not_false_eq_true, reduceCtorEq, eq_self_iff_true, and_self, Bool.false_eq_true, Bool.not_eq_true]; rfl) ls (lv_sub hl [0, 1, 2, 3] rfl)
  exact lp4 (kU σ) 0 (by omega) _ (rfl) ls (lv_sub hl [0, 1, 2, 3] rfl)
theorem in_X5_pays_X5 : ∀ w ∈ u_ws RX5 TX5 11, w ∈ wsX5_pays := by decide +kernel
set_option maxHeartbeats 4000000 in
set_option maxRecDepth 100000 in
theorem c_pays (l : Launch) (E : gE) (A : Nat → Prop) (g : Nat → Nat) (M : gM) (σ : Sg) (th : Int32) (hv : VS σ) (hw : MW E g M σ th) (k : Nat) (hk : k < kR σ) : Met l yX5_pays wsX5_pays ({ frames := 4, cells := 0, slots := 0, locals := 89 } : Room) (Pm E [.ref (g 0), .int (nI k)] (mP E A g M)) (k2_QcV (.int (due σ k (wnr σ k)))) 0 0 (fun _ => False) := by
  refine m_entry (by decide) rfl (Nat.le_of_ble_eq_true rfl) ?_
  intro p e s m args below meth c hx hb hr hml hts hown hlocks hin hM hK ls hl
  have hl : lv_has ls 5 [(0, .ref (g 0)), (1, .int (nI k))] := hl
  have hown : s.vm.findClass RX5 = some m.cls := hown
  obtain ⟨⟨hR9, hG9, hU9, hD9⟩, -⟩ := id hv
  obtain ⟨f1, m1, hf1⟩ := MW.house hw
  obtain ⟨f2, m2, hf2⟩ := MW.joined hw
  obtain ⟨f3, m3, hf3⟩ := MW.spooks hw
  obtain ⟨f4, m4, hf4⟩ := MW.people hw
  obtain ⟨f5, m5, hf5⟩ := MW.numbers hw
  refine lv_aload_n hx hb dX5_pays_0 rfl (lv_at hl 0 rfl) ?_
  refine lv_iload_n hx hb dX5_pays_1 rfl (lv_at hl 1 rfl) ?_
  refine m_cV 1 [.int (nI k)] [] hx hb hml hown hts hK (c_winner l E A g M σ th hv hw k (by omega)) gX5_pays_X5_winner rfl rfl rfl (by decide +kernel) rfl ⟨Nat.le_of_ble_eq_true rfl, Nat.le_of_ble_eq_true rfl⟩ hM (MW.x hw) rfl rfl hM hl.1 (Nat.le_of_ble_eq_true rfl) ⟨Nat.le_of_ble_eq_true rfl, Nat.le_of_ble_eq_true rfl⟩ rfl dX5_pays_2 ?_
  refine lv_istore_n (lv' := [(2, .int (wnr σ k)), (0, .ref (g 0)), (1, .int (nI k))]) hx hb dX5_pays_5 rfl hl (by decide) rfl (fun ls hl => ?_)
  refine lv_iload_n hx hb dX5_pays_6 rfl (lv_at hl 0 rfl) ?_
  refine lv_iconst (v := (-1)) hx hb dX5_pays_7 (by decide) ?_
  refine lv_icmp_ne (tgt := 13) hx hb dX5_pays_8 (by decide) (fun c8 => ?_) (fun c8 => ?_)
  · refine lv_aload_n hx hb dX5_pays_13 rfl (lv_at hl 1 rfl) ?_
    refine lv_iload_n hx hb dX5_pays_14 rfl (lv_at hl 2 rfl) ?_
    refine lv_iconst (v := 2) hx hb dX5_pays_15 (by decide) ?_
    refine m_cV 2 [.int (nI k), .int 2] [] hx hb hml hown hts hK (c_ro l E A g M σ th hw k 2 (by omega) (by omega)) gX5_pays_X5_ro rfl rfl rfl (by decide +kernel) rfl ⟨Nat.le_of_ble_eq_true rfl, Nat.le_of_ble_eq_true rfl⟩ hM (MW.x hw) rfl rfl hM hl.1 (Nat.le_of_ble_eq_true rfl) ⟨Nat.le_of_ble_eq_true rfl, Nat.le_of_ble_eq_true rfl⟩ rfl dX5_pays_16 ?_
    refine lv_istore_n (lv' := [(3, .int (sRm σ k 2)), (2, .int (wnr σ k)), (0, .ref (g 0)), (1, .int (nI k))]) hx hb dX5_pays_19 rfl hl (by decide) rfl (fun ls hl => ?_)
    refine lv_iconst (v := 0) hx hb dX5_pays_20 (by decide) ?_
    refine lv_istore (lv' := [(4, .int 0), (3, .int (sRm σ k 2)), (2, .int (wnr σ k)), (0, .ref (g 0)), (1, .int (nI k))]) hx hb dX5_pays_21 hl (by decide) rfl (fun ls hl => ?_)
    have lp23 : ∀ (n23 i : Nat), n23 + i = kU σ → ∀ x3 : Int32, x3 = duA σ k (wnr σ k) i → ∀ ls : Array Slot, lv_has ls 5 [(4, .int (nI i)), (3, .int x3), (2, .int (wnr σ k)), (0, .ref (g 0)), (1, .int (nI k))] → W p l e ({ frames := 4, cells := 0, slots := 0, locals := 89 } : Room) s m args below meth c s.heap [] 0 0 (MQ below (k2_QcV (.int (due σ k (wnr σ k)))) args s 0 0 (fun _ => False)) (F0 m 23 ls []) := by
      intro n23
      induction n23 with
      | zero =>
        intro i hi23 x3 ex3 ls hl
        obtain rfl : kU σ = i := by omega
        refine lv_iload hx hb dX5_pays_23 (lv_at hl 0 rfl) ?_
        refine lv_aload_n hx hb dX5_pays_25 rfl (lv_at hl 3 rfl) ?_
        refine m_get hx hb hts in_X5_pays_X5 hown hK hM (MW.x hw) rfl 4 (by decide) (by decide +kernel) rfl dX5_pays_26 ?_
        refine lv_icmp_ge (tgt := 66) hx hb dX5_pays_29 (by decide) (fun c29 => ?_) (fun c9 => absurd (Int32.le_refl _) c9)
        refine lv_iload_n hx hb dX5_pays_66 rfl (lv_at hl 1 rfl) ?_
        exact r_i hx hb hr hlocks dX5_pays_67 (by rw [due, if_neg c8, ← ex3])
      | succ n23 ih23 =>
        intro i hi23 x3 ex3 ls hl
        have hlt23 : i < kU σ := by omega
        refine lv_iload hx hb dX5_pays_23 (lv_at hl 0 rfl) ?_
        refine lv_aload_n hx hb dX5_pays_25 rfl (lv_at hl 3 rfl) ?_
        refine m_get hx hb hts in_X5_pays_X5 hown hK hM (MW.x hw) rfl 4 (by decide) (by decide +kernel) rfl dX5_pays_26 ?_
        refine lv_icmp_ge (tgt := 66) hx hb dX5_pays_29 (by decide) (fun c9 => absurd c9 (nI_ge hlt23 (by omega))) (fun c29 => ?_)
        refine lv_iload hx hb dX5_pays_32 (lv_at hl 0 rfl) ?_
        refine lv_iload_n hx hb dX5_pays_34 rfl (lv_at hl 2 rfl) ?_
        refine lv_icmp_eq (tgt := 60) hx hb dX5_pays_35 (by decide) (fun c35 => ?_) (fun c35 => ?_)
        · refine lv_iinc (v := nI (i + 1)) (lv' := [(4, .int (nI (i + 1))), (3, .int x3), (2, .int (wnr σ k)), (0, .ref (g 0)), (1, .int (nI k))]) hx hb dX5_pays_60 hl (k := 0) rfl (m_inc _) (by decide) rfl (fun ls hl => ?_)
          refine lv_goto (tgt := 23) hx hb dX5_pays_63 (by decide) ?_
          exact ih23 (i + 1) (by omega) _ (by simp only [duA, c8, c29, c35, ← ex3, if_true, if_false, true_and, and_true, false_and, and_false, not_true_eq_false, not_false_eq_true, reduceCtorEq, eq_self_iff_true, and_self, Bool.false_eq_true, Bool.not_eq_true]) ls (lv_sub hl [0, 1, 2, 3, 4] rfl)
        · refine lv_aload_n hx hb dX5_pays_38 rfl (lv_at hl 3 rfl) ?_
          refine lv_iload hx hb dX5_pays_39 (lv_at hl 0 rfl) ?_
          refine lv_iload_n hx hb dX5_pays_41 rfl (lv_at hl 4 rfl) ?_
          refine m_cV 2 [.int (nI i), .int (nI k)] [] hx hb hml hown hts hK (c_counts l E A g M σ th hv hw i k (by omega) (by omega)) gX5_pays_X5_counts rfl rfl rfl (by decide +kernel) rfl ⟨Nat.le_of_ble_eq_true rfl, Nat.le_of_ble_eq_true rfl⟩ hM (MW.x hw) rfl rfl hM hl.1 (Nat.le_of_ble_eq_true rfl) ⟨Nat.le_of_ble_eq_true rfl, Nat.le_of_ble_eq_true rfl⟩ rfl dX5_pays_42 ?_
          refine lv_if_eq (tgt := 60) hx hb dX5_pays_45 (by decide) (fun c45 => ?_) (fun c45 => ?_)
          · have c45 := bI_f c45
            refine lv_iinc (v := nI (i + 1)) (lv' := [(4, .int (nI (i + 1))), (3, .int x3), (2, .int (wnr σ k)), (0, .ref (g 0)), (1, .int (nI k))]) hx hb dX5_pays_60 hl (k := 0) rfl (m_inc _) (by decide) rfl (fun ls hl => ?_)
            refine lv_goto (tgt := 23) hx hb dX5_pays_63 (by decide) ?_
            exact ih23 (i + 1) (by omega) _ (by simp only [duA, c8, c29, c35, c45, ← ex3, if_true, if_false, true_and, and_true, false_and, and_false, not_true_eq_false, not_false_eq_true, reduceCtorEq, eq_self_iff_true, and_self, Bool.false_eq_true, Bool.not_eq_true]) ls (lv_sub hl [0, 1, 2, 3, 4] rfl)
          · have c45 := bI_t c45
            refine lv_iload_n hx hb dX5_pays_48 rfl (lv_at hl 1 rfl) ?_
            refine lv_aload_n hx hb dX5_pays_49 rfl (lv_at hl 3 rfl) ?_
            refine lv_iload hx hb dX5_pays_50 (lv_at hl 0 rfl) ?_
            refine lv_iconst (v := 4) hx hb dX5_pays_52 (by decide) ?_
            refine m_cV 2 [.int (nI i), .int 4] [.int x3] hx hb hml hown hts hK (c_pe l E A g M σ th hw i 4 (by omega) (by omega)) gX5_pays_X5_pe rfl rfl rfl (by decide +kernel) rfl ⟨Nat.le_of_ble_eq_true rfl, Nat.le_of_ble_eq_true rfl⟩ hM (MW.x hw) rfl rfl hM hl.1 (Nat.le_of_ble_eq_true rfl) ⟨Nat.le_of_ble_eq_true rfl, Nat.le_of_ble_eq_true rfl⟩ rfl dX5_pays_53 ?_
            refine va_mmax hx hb (hml.trans hl.1.symm) hown (hts (.methodLink RX5 116 Lib.Math.max.name) (by decide +kernel)) (hts (.static Lib.Math.max.name) (by decide +kernel)) (hts (.initialized "java/lang/Math") (by decide +kernel)) (hts (.code Lib.Math.max.name Lib.Math.max.code 2 (some .int)) (by decide +kernel)) (Nat.le_of_ble_eq_true rfl) (Nat.le_of_ble_eq_true rfl) (Nat.zero_le _) (Nat.zero_le _) dX5_pays_56 ?_
            refine lv_istore_n (lv' := [(3, .int (if x3 < (sGu σ i 4) then (sGu σ i 4) else x3)), (4, .int (nI i)), (2, .int (wnr σ k)), (0, .ref (g 0)), (1, .int (nI k))]) hx hb dX5_pays_59 rfl hl (by decide) rfl (fun ls hl => ?_)
            refine lv_iinc (v := nI (i + 1)) (lv' := [(4, .int (nI (i + 1))), (3, .int (if x3 < (sGu σ i 4) then (sGu σ i 4) else x3)), (2, .int (wnr σ k)), (0, .ref (g 0)), (1, .int (nI k))]) hx hb dX5_pays_60 hl (k := 1) rfl (m_inc _) (by decide) rfl (fun ls hl => ?_)
            refine lv_goto (tgt := 23) hx hb dX5_pays_63 (by decide) ?_
            exact ih23 (i + 1) (by omega) _ (by simp only [duA, c8, c29, c35, c45, ← ex3, if_true, if_false, true_and, and_true, false_and, and_false, not_true_eq_false, not_false_eq_true, reduceCtorEq, eq_self_iff_true, and_self, Bool.false_eq_true, Bool.not_eq_true]) ls (lv_sub hl [0, 1, 2, 3, 4] rfl)
    exact lp23 (kU σ) 0 (by omega) _ (rfl) ls (lv_sub hl [0, 1, 2, 3, 4] rfl)
  · refine lv_iconst (v := 0) hx hb dX5_pays_11 (by decide) ?_
    exact r_i hx hb hr hlocks dX5_pays_12 (by rw [due, if_pos c8])
theorem in_X5_roomTold_X5 : ∀ w ∈ u_ws RX5 TX5 11, w ∈ wsX5_roomTold := by decide +kernel
set_option maxHeartbeats 4000000 in
set_option maxRecDepth 100000 in
theorem c_roomTold (l : Launch) (E : gE) (A : Nat → Prop) (g : Nat → Nat) (M : gM) (σ : Sg) (th : Int32) (hv : VS σ) (hw : MW E g M σ th) (k w : Nat) (hk : k < kR σ) (hw9 : w < 6) : Met l yX5_roomTold wsX5_roomTold ({ frames := 1, cells := 0, slots := 0, locals := 22 } : Room) (Pm E [.ref (g 0), .int (nI k), .int (nI w)] (mP E A g M)) (k2_QcV (.int (rmT σ k w))) 0 0 (fun _ => False) := by
  refine m_entry (by decide) rfl (Nat.le_of_ble_eq_true rfl) ?_
  intro p e s m args below meth c hx hb hr hml hts hown hlocks hin hM hK ls hl
  have hl : lv_has ls 3 [(0, .ref (g 0)), (1, .int (nI k)), (2, .int (nI w))] := hl
  have hown : s.vm.findClass RX5 = some m.cls := hown
  obtain ⟨⟨hR9, hG9, hU9, hD9⟩, -⟩ := id hv
  obtain ⟨f1, m1, hf1⟩ := MW.house hw
  obtain ⟨f2, m2, hf2⟩ := MW.joined hw
  obtain ⟨f3, m3, hf3⟩ := MW.spooks hw
  obtain ⟨f4, m4, hf4⟩ := MW.people hw
  obtain ⟨f5, m5, hf5⟩ := MW.numbers hw
  rcases (show w = 0 ∨ w = 1 ∨ w = 2 ∨ w = 3 ∨ w = 4 ∨ w = 5 by omega) with rfl | rfl | rfl | rfl | rfl | rfl
  · have hl : lv_has ls 3 [(0, .ref (g 0)), (1, .int (nI k)), (2, .int 0)] := hl
    refine lv_iload_n hx hb dX5_roomTold_0 rfl (lv_at hl 2 rfl) ?_
    refine lv_iconst (v := 3) hx hb dX5_roomTold_1 (by decide) ?_
    refine lv_icmp_ge (tgt := 14) hx hb dX5_roomTold_2 (by decide) (fun c9 => absurd c9 (by decide)) (fun c9 => ?_)
    refine lv_aload_n hx hb dX5_roomTold_5 rfl (lv_at hl 0 rfl) ?_
    refine lv_iload_n hx hb dX5_roomTold_6 rfl (lv_at hl 1 rfl) ?_
    refine lv_iload_n hx hb dX5_roomTold_7 rfl (lv_at hl 2 rfl) ?_
    refine m_cV 2 [.int (nI k), .int 0] [] hx hb hml hown hts hK (c_ro l E A g M σ th hw k 0 (by omega) (by omega)) gX5_roomTold_X5_ro rfl rfl rfl (by decide +kernel) rfl ⟨Nat.le_of_ble_eq_true rfl, Nat.le_of_ble_eq_true rfl⟩ hM (MW.x hw) rfl rfl hM hl.1 (Nat.le_of_ble_eq_true rfl) ⟨Nat.le_of_ble_eq_true rfl, Nat.le_of_ble_eq_true rfl⟩ rfl dX5_roomTold_8 ?_
    refine lv_goto (tgt := 39) hx hb dX5_roomTold_11 (by decide) ?_
    exact r_i hx hb hr hlocks dX5_roomTold_39 (rfl)
  · have hl : lv_has ls 3 [(0, .ref (g 0)), (1, .int (nI k)), (2, .int 1)] := hl
    refine lv_iload_n hx hb dX5_roomTold_0 rfl (lv_at hl 2 rfl) ?_
    refine lv_iconst (v := 3) hx hb dX5_roomTold_1 (by decide) ?_
    refine lv_icmp_ge (tgt := 14) hx hb dX5_roomTold_2 (by decide) (fun c9 => absurd c9 (by decide)) (fun c9 => ?_)
    refine lv_aload_n hx hb dX5_roomTold_5 rfl (lv_at hl 0 rfl) ?_
    refine lv_iload_n hx hb dX5_roomTold_6 rfl (lv_at hl 1 rfl) ?_
    refine lv_iload_n hx hb dX5_roomTold_7 rfl (lv_at hl 2 rfl) ?_
    refine m_cV 2 [.int (nI k), .int 1] [] hx hb hml hown hts hK (c_ro l E A g M σ th hw k 1 (by omega) (by omega)) gX5_roomTold_X5_ro rfl rfl rfl (by decide +kernel) rfl ⟨Nat.le_of_ble_eq_true rfl, Nat.le_of_ble_eq_true rfl⟩ hM (MW.x hw) rfl rfl hM hl.1 (Nat.le_of_ble_eq_true rfl) ⟨Nat.le_of_ble_eq_true rfl, Nat.le_of_ble_eq_true rfl⟩ rfl dX5_roomTold_8 ?_
    refine lv_goto (tgt := 39) hx hb dX5_roomTold_11 (by decide) ?_
    exact r_i hx hb hr hlocks dX5_roomTold_39 (rfl)
  · have hl : lv_has ls 3 [(0, .ref (g 0)), (1, .int (nI k)), (2, .int 2)] := hl
    refine lv_iload_n hx hb dX5_roomTold_0 rfl (lv_at hl 2 rfl) ?_
    refine lv_iconst (v := 3) hx hb dX5_roomTold_1 (by decide) ?_
    refine lv_icmp_ge (tgt := 14) hx hb dX5_roomTold_2 (by decide) (fun c9 => absurd c9 (by decide)) (fun c9 => ?_)
    refine lv_aload_n hx hb dX5_roomTold_5 rfl (lv_at hl 0 rfl) ?_
    refine lv_iload_n hx hb dX5_roomTold_6 rfl (lv_at hl 1 rfl) ?_
    refine lv_iload_n hx hb dX5_roomTold_7 rfl (lv_at hl 2 rfl) ?_
    refine m_cV 2 [.int (nI k), .int 2] [] hx hb hml hown hts hK (c_ro l E A g M σ th hw k 2 (by omega) (by omega)) gX5_roomTold_X5_ro rfl rfl rfl (by decide +kernel) rfl ⟨Nat.le_of_ble_eq_true rfl, Nat.le_of_ble_eq_true rfl⟩ hM (MW.x hw) rfl rfl hM hl.1 (Nat.le_of_ble_eq_true rfl) ⟨Nat.le_of_ble_eq_true rfl, Nat.le_of_ble_eq_true rfl⟩ rfl dX5_roomTold_8 ?_
    refine lv_goto (tgt := 39) hx hb dX5_roomTold_11 (by decide) ?_
    exact r_i hx hb hr hlocks dX5_roomTold_39 (rfl)
  · have hl : lv_has ls 3 [(0, .ref (g 0)), (1, .int (nI k)), (2, .int 3)] := hl
    refine lv_iload_n hx hb dX5_roomTold_0 rfl (lv_at hl 2 rfl) ?_
    refine lv_iconst (v := 3) hx hb dX5_roomTold_1 (by decide) ?_
    refine lv_icmp_ge (tgt := 14) hx hb dX5_roomTold_2 (by decide) (fun c9 => ?_) (fun c9 => absurd c9 (by decide))
    refine lv_iload_n hx hb dX5_roomTold_14 rfl (lv_at hl 2 rfl) ?_
    refine lv_iconst (v := 3) hx hb dX5_roomTold_15 (by decide) ?_
    refine lv_icmp_ne (tgt := 31) hx hb dX5_roomTold_16 (by decide) (fun c9 => absurd c9 (by decide)) (fun c9 => ?_)
    refine lv_aload_n hx hb dX5_roomTold_19 rfl (lv_at hl 0 rfl) ?_
    refine m_get hx hb hts in_X5_roomTold_X5 hown hK hM (MW.x hw) rfl 6 (by decide) (by decide +kernel) rfl dX5_roomTold_20 ?_
    refine lv_iload_n hx hb dX5_roomTold_23 rfl (lv_at hl 1 rfl) ?_
    refine m_iald (v := sJn σ k) hx hb hK hM m2 (ix_ok (by omega)) (rd_ok (by omega) (hf2 k (by omega))) dX5_roomTold_24 ?_
    refine m_cS 1 [.int (sJn σ k)] [] hx hb hml hown hts hK (c_bitCount l E A g M (sJn σ k)) gX5_roomTold_J6_bitCount_0f7a4 rfl rfl rfl (by decide +kernel) rfl ⟨Nat.le_of_ble_eq_true rfl, Nat.le_of_ble_eq_true rfl⟩ trivial hl.1 (Nat.le_of_ble_eq_true rfl) ⟨Nat.le_of_ble_eq_true rfl, Nat.le_of_ble_eq_true rfl⟩ rfl dX5_roomTold_25 ?_
    refine lv_goto (tgt := 39) hx hb dX5_roomTold_28 (by decide) ?_
    exact r_i hx hb hr hlocks dX5_roomTold_39 (rfl)
  · have hl : lv_has ls 3 [(0, .ref (g 0)), (1, .int (nI k)), (2, .int 4)] := hl
    refine lv_iload_n hx hb dX5_roomTold_0 rfl (lv_at hl 2 rfl) ?_
    refine lv_iconst (v := 3) hx hb dX5_roomTold_1 (by decide) ?_
    refine lv_icmp_ge (tgt := 14) hx hb dX5_roomTold_2 (by decide) (fun c9 => ?_) (fun c9 => absurd c9 (by decide))
    refine lv_iload_n hx hb dX5_roomTold_14 rfl (lv_at hl 2 rfl) ?_
    refine lv_iconst (v := 3) hx hb dX5_roomTold_15 (by decide) ?_
    refine lv_icmp_ne (tgt := 31) hx hb dX5_roomTold_16 (by decide) (fun c9 => ?_) (fun c9 => absurd c9 (by decide))
    refine lv_aload_n hx hb dX5_roomTold_31 rfl (lv_at hl 0 rfl) ?_
    refine lv_iload_n hx hb dX5_roomTold_32 rfl (lv_at hl 1 rfl) ?_
    refine lv_iload_n hx hb dX5_roomTold_33 rfl (lv_at hl 2 rfl) ?_
    refine lv_iconst (v := 1) hx hb dX5_roomTold_34 (by decide) ?_
    refine lv_isub hx hb dX5_roomTold_35 ?_
    rw [show ((4 : Int32) - 1) = 3 from by decide]
    refine m_cV 2 [.int (nI k), .int 3] [] hx hb hml hown hts hK (c_ro l E A g M σ th hw k 3 (by omega) (by omega)) gX5_roomTold_X5_ro rfl rfl rfl (by decide +kernel) rfl ⟨Nat.le_of_ble_eq_true rfl, Nat.le_of_ble_eq_true rfl⟩ hM (MW.x hw) rfl rfl hM hl.1 (Nat.le_of_ble_eq_true rfl) ⟨Nat.le_of_ble_eq_true rfl, Nat.le_of_ble_eq_true rfl⟩ rfl dX5_roomTold_36 ?_
    exact r_i hx hb hr hlocks dX5_roomTold_39 (rfl)
  · have hl : lv_has ls 3 [(0, .ref (g 0)), (1, .int (nI k)), (2, .int 5)] := hl
    refine lv_iload_n hx hb dX5_roomTold_0 rfl (lv_at hl 2 rfl) ?_
    refine lv_iconst (v := 3) hx hb dX5_roomTold_1 (by decide) ?_
    refine lv_icmp_ge (tgt := 14) hx hb dX5_roomTold_2 (by decide) (fun c9 => ?_) (fun c9 => absurd c9 (by decide))
    refine lv_iload_n hx hb dX5_roomTold_14 rfl (lv_at hl 2 rfl) ?_
    refine lv_iconst (v := 3) hx hb dX5_roomTold_15 (by decide) ?_
    refine lv_icmp_ne (tgt := 31) hx hb dX5_roomTold_16 (by decide) (fun c9 => ?_) (fun c9 => absurd c9 (by decide))
    refine lv_aload_n hx hb dX5_roomTold_31 rfl (lv_at hl 0 rfl) ?_
    refine lv_iload_n hx hb dX5_roomTold_32 rfl (lv_at hl 1 rfl) ?_
    refine lv_iload_n hx hb dX5_roomTold_33 rfl (lv_at hl 2 rfl) ?_
    refine lv_iconst (v := 1) hx hb dX5_roomTold_34 (by decide) ?_
    refine lv_isub hx hb dX5_roomTold_35 ?_
    rw [show ((5 : Int32) - 1) = 4 from by decide]
    refine m_cV 2 [.int (nI k), .int 4] [] hx hb hml hown hts hK (c_ro l E A g M σ th hw k 4 (by omega) (by omega)) gX5_roomTold_X5_ro rfl rfl rfl (by decide +kernel) rfl ⟨Nat.le_of_ble_eq_true rfl, Nat.le_of_ble_eq_true rfl⟩ hM (MW.x hw) rfl rfl hM hl.1 (Nat.le_of_ble_eq_true rfl) ⟨Nat.le_of_ble_eq_true rfl, Nat.le_of_ble_eq_true rfl⟩ rfl dX5_roomTold_36 ?_
    exact r_i hx hb hr hlocks dX5_roomTold_39 (rfl)
theorem in_X5_won_X5 : ∀ w ∈ u_ws RX5 TX5 11, w ∈ wsX5_won := by decide +kernel
set_option maxHeartbeats 4000000 in
set_option maxRecDepth 100000 in
theorem c_won (l : Launch) (E : gE) (A : Nat → Prop) (g : Nat → Nat) (M : gM) (σ : Sg) (th : Int32) (hv : VS σ) (hw : MW E g M σ th) (k w : Nat) (hk : k < kR σ) (hw9 : w < 3) : Met l yX5_won wsX5_won ({ frames := 5, cells := 0, slots := 0, locals := 113 } : Room) (Pm E [.ref (g 0), .int (nI k), .int (nI w)] (mP E A g M)) (k2_QcV (.int (wnT σ k w))) 0 0 (fun _ => False) := by
  refine m_entry (by decide) rfl (Nat.le_of_ble_eq_true rfl) ?_
  intro p e s m args below meth c hx hb hr hml hts hown hlocks hin hM hK ls hl
  have hl : lv_has ls 5 [(0, .ref (g 0)), (1, .int (nI k)), (2, .int (nI w))] := hl
  have hown : s.vm.findClass RX5 = some m.cls := hown
  obtain ⟨⟨hR9, hG9, hU9, hD9⟩, -⟩ := id hv
  obtain ⟨f1, m1, hf1⟩ := MW.house hw
  obtain ⟨f2, m2, hf2⟩ := MW.joined hw
  obtain ⟨f3, m3, hf3⟩ := MW.spooks hw
  obtain ⟨f4, m4, hf4⟩ := MW.people hw
  obtain ⟨f5, m5, hf5⟩ := MW.numbers hw
  rcases (show w = 0 ∨ w = 1 ∨ w = 2 by omega) with rfl | rfl | rfl
  · have hl : lv_has ls 5 [(0, .ref (g 0)), (1, .int (nI k)), (2, .int 0)] := hl
    refine lv_iconst (v := 0) hx hb dX5_won_0 (by decide) ?_
    refine lv_istore_n (lv' := [(3, .int 0), (0, .ref (g 0)), (1, .int (nI k)), (2, .int 0)]) hx hb dX5_won_1 rfl hl (by decide) rfl (fun ls hl => ?_)
    refine lv_iload_n hx hb dX5_won_2 rfl (lv_at hl 3 rfl) ?_
    refine lv_iconst (v := 2) hx hb dX5_won_3 (by decide) ?_
    refine lv_icmp_ge (tgt := 25) hx hb dX5_won_4 (by decide) (fun c9 => absurd c9 (by decide)) (fun c9 => ?_)
    refine lv_iload_n hx hb dX5_won_7 rfl (lv_at hl 3 rfl) ?_
    refine lv_if_ne (tgt := 19) hx hb dX5_won_8 (by decide) (fun c9 => absurd c9 (by decide)) (fun c9 => ?_)
    refine lv_aload_n hx hb dX5_won_11 rfl (lv_at hl 1 rfl) ?_
    refine lv_iload_n hx hb dX5_won_12 rfl (lv_at hl 2 rfl) ?_
    refine m_cV 1 [.int (nI k)] [] hx hb hml hown hts hK (c_winner l E A g M σ th hv hw k (by omega)) gX5_won_X5_winner rfl rfl rfl (by decide +kernel) rfl ⟨Nat.le_of_ble_eq_true rfl, Nat.le_of_ble_eq_true rfl⟩ hM (MW.x hw) rfl rfl hM hl.1 (Nat.le_of_ble_eq_true rfl) ⟨Nat.le_of_ble_eq_true rfl, Nat.le_of_ble_eq_true rfl⟩ rfl dX5_won_13 ?_
    refine lv_goto (tgt := 24) hx hb dX5_won_16 (by decide) ?_
    exact r_i hx hb hr hlocks dX5_won_24 (by first | rfl | exact ex3)
  · have hl : lv_has ls 5 [(0, .ref (g 0)), (1, .int (nI k)), (2, .int 1)] := hl
    refine lv_iconst (v := 0) hx hb dX5_won_0 (by decide) ?_
    refine lv_istore_n (lv' := [(3, .int 0), (0, .ref (g 0)), (1, .int (nI k)), (2, .int 1)]) hx hb dX5_won_1 rfl hl (by decide) rfl (fun ls hl => ?_)
    refine lv_iload_n hx hb dX5_won_2 rfl (lv_at hl 3 rfl) ?_
    refine lv_iconst (v := 2) hx hb dX5_won_3 (by decide) ?_
    refine lv_icmp_ge (tgt := 25) hx hb dX5_won_4 (by decide) (fun c9 => absurd c9 (by decide)) (fun c9 => ?_)
    refine lv_iload_n hx hb dX5_won_7 rfl (lv_at hl 3 rfl) ?_
    refine lv_if_ne (tgt := 19) hx hb dX5_won_8 (by decide) (fun c9 => ?_) (fun c9 => absurd c9 (by decide))
    refine lv_aload_n hx hb dX5_won_19 rfl (lv_at hl 1 rfl) ?_
    refine lv_iload_n hx hb dX5_won_20 rfl (lv_at hl 2 rfl) ?_
    refine m_cV 1 [.int (nI k)] [] hx hb hml hown hts hK (c_pays l E A g M σ th hv hw k (by omega)) gX5_won_X5_pays rfl rfl rfl (by decide +kernel) rfl ⟨Nat.le_of_ble_eq_true rfl, Nat.le_of_ble_eq_true rfl⟩ hM (MW.x hw) rfl rfl hM hl.1 (Nat.le_of_ble_eq_true rfl) ⟨Nat.le_of_ble_eq_true rfl, Nat.le_of_ble_eq_true rfl⟩ rfl dX5_won_21 ?_
    exact r_i hx hb hr hlocks dX5_won_24 (by first | rfl | exact ex3)
  · have hl : lv_has ls 5 [(0, .ref (g 0)), (1, .int (nI k)), (2, .int 2)] := hl
    refine lv_iconst (v := 0) hx hb dX5_won_0 (by decide) ?_
    refine lv_istore_n (lv' := [(3, .int 0), (0, .ref (g 0)), (1, .int (nI k)), (2, .int 2)]) hx hb dX5_won_1 rfl hl (by decide) rfl (fun ls hl => ?_)
    refine lv_iload_n hx hb dX5_won_2 rfl (lv_at hl 3 rfl) ?_
    refine lv_iconst (v := 2) hx hb dX5_won_3 (by decide) ?_
    refine lv_icmp_ge (tgt := 25) hx hb dX5_won_4 (by decide) (fun c9 => ?_) (fun c9 => absurd c9 (by decide))
    refine lv_iconst (v := 0) hx hb dX5_won_25 (by decide) ?_
    refine lv_istore (lv' := [(4, .int 0), (3, .int 0), (0, .ref (g 0)), (1, .int (nI k)), (2, .int 2)]) hx hb dX5_won_26 hl (by decide) rfl (fun ls hl => ?_)
    have lp28 : ∀ (n28 i : Nat), n28 + i = kU σ → ∀ x3 : Int32, x3 = bcA σ k i → ∀ ls : Array Slot, lv_has ls 5 [(4, .int (nI i)), (3, .int x3), (0, .ref (g 0)), (1, .int (nI k)), (2, .int 2)] → W p l e ({ frames := 5, cells := 0, slots := 0, locals := 113 } : Room) s m args below meth c s.heap [] 0 0 (MQ below (k2_QcV (.int (wnT σ k 2))) args s 0 0 (fun _ => False)) (F0 m 28 ls []) := by
      intro n28
      induction n28 with
      | zero =>
        intro i hi28 x3 ex3 ls hl
        obtain rfl : kU σ = i := by omega
        refine lv_iload hx hb dX5_won_28 (lv_at hl 0 rfl) ?_
        refine lv_aload_n hx hb dX5_won_30 rfl (lv_at hl 2 rfl) ?_
        refine m_get hx hb hts in_X5_won_X5 hown hK hM (MW.x hw) rfl 4 (by decide) (by decide +kernel) rfl dX5_won_31 ?_
        refine lv_icmp_ge (tgt := 61) hx hb dX5_won_34 (by decide) (fun c34 => ?_) (fun c9 => absurd (Int32.le_refl _) c9)
        refine lv_iload_n hx hb dX5_won_61 rfl (lv_at hl 1 rfl) ?_
        exact r_i hx hb hr hlocks dX5_won_62 (by first | rfl | exact ex3)
      | succ n28 ih28 =>
        intro i hi28 x3 ex3 ls hl
        have hlt28 : i < kU σ := by omega
        refine lv_iload hx hb dX5_won_28 (lv_at hl 0 rfl) ?_
        refine lv_aload_n hx hb dX5_won_30 rfl (lv_at hl 2 rfl) ?_
        refine m_get hx hb hts in_X5_won_X5 hown hK hM (MW.x hw) rfl 4 (by decide) (by decide +kernel) rfl dX5_won_31 ?_
        refine lv_icmp_ge (tgt := 61) hx hb dX5_won_34 (by decide) (fun c9 => absurd c9 (nI_ge hlt28 (by omega))) (fun c34 => ?_)
        refine lv_iload_n hx hb dX5_won_37 rfl (lv_at hl 1 rfl) ?_
        refine lv_aload_n hx hb dX5_won_38 rfl (lv_at hl 2 rfl) ?_
        refine lv_iload hx hb dX5_won_39 (lv_at hl 0 rfl) ?_
        refine lv_iload_n hx hb dX5_won_41 rfl (lv_at hl 3 rfl) ?_
        refine m_cV 2 [.int (nI i), .int (nI k)] [.int x3] hx hb hml hown hts hK (c_counts l E A g M σ th hv hw i k (by omega) (by omega)) gX5_won_X5_counts rfl rfl rfl (by decide +kernel) rfl ⟨Nat.le_of_ble_eq_true rfl, Nat.le_of_ble_eq_true rfl⟩ hM (MW.x hw) rfl rfl hM hl.1 (Nat.le_of_ble_eq_true rfl) ⟨Nat.le_of_ble_eq_true rfl, Nat.le_of_ble_eq_true rfl⟩ rfl dX5_won_42 ?_
        refine lv_if_eq (tgt := 52) hx hb dX5_won_45 (by decide) (fun c45 => ?_) (fun c45 => ?_)
        · have c45 := bI_f c45
          refine lv_iconst (v := 0) hx hb dX5_won_52 (by decide) ?_
          refine lv_iadd hx hb dX5_won_53 ?_
          refine lv_istore_n (lv' := [(3, .int (x3 + 0)), (4, .int (nI i)), (0, .ref (g 0)), (1, .int (nI k)), (2, .int 2)]) hx hb dX5_won_54 rfl hl (by decide) rfl (fun ls hl => ?_)
          refine lv_iinc (v := nI (i + 1)) (lv' := [(4, .int (nI (i + 1))), (3, .int (x3 + 0)), (0, .ref (g 0)), (1, .int (nI k)), (2, .int 2)]) hx hb dX5_won_55 hl (k := 1) rfl (m_inc _) (by decide) rfl (fun ls hl => ?_)
          refine lv_goto (tgt := 28) hx hb dX5_won_58 (by decide) ?_
          exact ih28 (i + 1) (by omega) _ (by rw [bcA, if_neg (by rw [c45]; decide), ex3, Int32.add_zero]) ls (lv_sub hl [0, 1, 2, 3, 4] rfl)
        · have c45 := bI_t c45
          refine lv_iconst (v := 1) hx hb dX5_won_48 (by decide) ?_
          refine lv_goto (tgt := 53) hx hb dX5_won_49 (by decide) ?_
          refine lv_iadd hx hb dX5_won_53 ?_
          refine lv_istore_n (lv' := [(3, .int (x3 + 1)), (4, .int (nI i)), (0, .ref (g 0)), (1, .int (nI k)), (2, .int 2)]) hx hb dX5_won_54 rfl hl (by decide) rfl (fun ls hl => ?_)
          refine lv_iinc (v := nI (i + 1)) (lv' := [(4, .int (nI (i + 1))), (3, .int (x3 + 1)), (0, .ref (g 0)), (1, .int (nI k)), (2, .int 2)]) hx hb dX5_won_55 hl (k := 1) rfl (m_inc _) (by decide) rfl (fun ls hl => ?_)
          refine lv_goto (tgt := 28) hx hb dX5_won_58 (by decide) ?_
          exact ih28 (i + 1) (by omega) _ (by rw [bcA, if_pos c45, ex3]) ls (lv_sub hl [0, 1, 2, 3, 4] rfl)
    exact lp28 (kU σ) 0 (by omega) _ (rfl) ls (lv_sub hl [0, 1, 2, 3, 4] rfl)
theorem in_X5_counted_X5 : ∀ w ∈ u_ws RX5 TX5 11, w ∈ wsX5_counted := by decide +kernel
set_option maxHeartbeats 4000000 in
set_option maxRecDepth 100000 in
theorem c_counted (l : Launch) (E : gE) (A : Nat → Prop) (g : Nat → Nat) (M : gM) (σ : Sg) (th : Int32) (hv : VS σ) (hw : MW E g M σ th) (w : Nat) (hw9 : w < 9) : Met l yX5_counted wsX5_counted ({ frames := 4, cells := 0, slots := 0, locals := 89 } : Room) (Pm E [.ref (g 0), .int (nI w)] (mP E A g M)) (k2_QcV (.int (ctT σ w))) 0 0 (fun _ => False) := by
  refine m_entry (by decide) rfl (Nat.le_of_ble_eq_true rfl) ?_
  intro p e s m args below meth c hx hb hr hml hts hown hlocks hin hM hK ls hl
  have hl : lv_has ls 4 [(0, .ref (g 0)), (1, .int (nI w))] := hl
  have hown : s.vm.findClass RX5 = some m.cls := hown
  obtain ⟨⟨hR9, hG9, hU9, hD9⟩, -⟩ := id hv
  obtain ⟨f1, m1, hf1⟩ := MW.house hw
  obtain ⟨f2, m2, hf2⟩ := MW.joined hw
  obtain ⟨f3, m3, hf3⟩ := MW.spooks hw
  obtain ⟨f4, m4, hf4⟩ := MW.people hw
  obtain ⟨f5, m5, hf5⟩ := MW.numbers hw
  refine lv_iconst (v := 0) hx hb dX5_counted_0 (by decide) ?_
  refine lv_istore_n (lv' := [(2, .int 0), (0, .ref (g 0)), (1, .int (nI w))]) hx hb dX5_counted_1 rfl hl (by decide) rfl (fun ls hl => ?_)
  refine lv_iload_n hx hb dX5_counted_2 rfl (lv_at hl 2 rfl) ?_
  rcases (show w = 0 ∨ w = 1 ∨ w = 2 ∨ w = 3 ∨ w = 4 ∨ w = 5 ∨ w = 6 ∨ w = 7 ∨ w = 8 by omega) with rfl | rfl | rfl | rfl | rfl | rfl | rfl | rfl | rfl
  · refine lv_tableIn (off := 45) (tgt := 48) hx hb dX5_counted_3 (by decide) (by decide) (by decide) (by decide) ?_
    refine lv_aload_n hx hb dX5_counted_48 rfl (lv_at hl 1 rfl) ?_
    refine m_get hx hb hts in_X5_counted_X5 hown hK hM (MW.x hw) rfl 9 (by decide) (by decide +kernel) rfl dX5_counted_49 ?_
    refine lv_iconst (v := 0) hx hb dX5_counted_52 (by decide) ?_
    refine m_iald (v := sN σ) hx hb hK hM m5 (ix_ok (n := 0) ⟨by decide, by decide⟩) (hf5.1) dX5_counted_53 ?_
    exact r_i hx hb hr hlocks dX5_counted_54 (by first | rfl | exact ex2)
  · refine lv_tableIn (off := 52) (tgt := 55) hx hb dX5_counted_3 (by decide) (by decide) (by decide) (by decide) ?_
    refine lv_aload_n hx hb dX5_counted_55 rfl (lv_at hl 1 rfl) ?_
    refine m_get hx hb hts in_X5_counted_X5 hown hK hM (MW.x hw) rfl 1 (by decide) (by decide +kernel) rfl dX5_counted_56 ?_
    exact r_i hx hb hr hlocks dX5_counted_59 (by first | rfl | exact ex2)
  · refine lv_tableIn (off := 57) (tgt := 60) hx hb dX5_counted_3 (by decide) (by decide) (by decide) (by decide) ?_
    refine lv_aload_n hx hb dX5_counted_60 rfl (lv_at hl 1 rfl) ?_
    refine m_get hx hb hts in_X5_counted_X5 hown hK hM (MW.x hw) rfl 2 (by decide) (by decide +kernel) rfl dX5_counted_61 ?_
    exact r_i hx hb hr hlocks dX5_counted_64 (by first | rfl | exact ex2)
  · refine lv_tableIn (off := 62) (tgt := 65) hx hb dX5_counted_3 (by decide) (by decide) (by decide) (by decide) ?_
    refine lv_aload_n hx hb dX5_counted_65 rfl (lv_at hl 1 rfl) ?_
    refine m_get hx hb hts in_X5_counted_X5 hown hK hM (MW.x hw) rfl 3 (by decide) (by decide +kernel) rfl dX5_counted_66 ?_
    exact r_i hx hb hr hlocks dX5_counted_69 (by first | rfl | exact ex2)
  · refine lv_tableIn (off := 67) (tgt := 70) hx hb dX5_counted_3 (by decide) (by decide) (by decide) (by decide) ?_
    refine lv_aload_n hx hb dX5_counted_70 rfl (lv_at hl 1 rfl) ?_
    refine m_get hx hb hts in_X5_counted_X5 hown hK hM (MW.x hw) rfl 4 (by decide) (by decide +kernel) rfl dX5_counted_71 ?_
    exact r_i hx hb hr hlocks dX5_counted_74 (by first | rfl | exact ex2)
  · refine lv_tableIn (off := 72) (tgt := 75) hx hb dX5_counted_3 (by decide) (by decide) (by decide) (by decide) ?_
    refine lv_aload_n hx hb dX5_counted_75 rfl (lv_at hl 1 rfl) ?_
    refine m_get hx hb hts in_X5_counted_X5 hown hK hM (MW.x hw) rfl 9 (by decide) (by decide +kernel) rfl dX5_counted_76 ?_
    refine lv_iconst (v := 1) hx hb dX5_counted_79 (by decide) ?_
    refine m_iald (v := sH σ) hx hb hK hM m5 (ix_ok (n := 1) ⟨by decide, by decide⟩) (hf5.2.1) dX5_counted_80 ?_
    exact r_i hx hb hr hlocks dX5_counted_81 (by first | rfl | exact ex2)
  · refine lv_tableIn (off := 79) (tgt := 82) hx hb dX5_counted_3 (by decide) (by decide) (by decide) (by decide) ?_
    refine lv_iconst (v := 0) hx hb dX5_counted_82 (by decide) ?_
    refine lv_istore_n (lv' := [(3, .int 0), (2, .int 0), (0, .ref (g 0)), (1, .int (nI 6))]) hx hb dX5_counted_83 rfl hl (by decide) rfl (fun ls hl => ?_)
    have lp84 : ∀ (n84 i : Nat), n84 + i = kU σ → ∀ x2 : Int32, x2 = bwA σ i → ∀ ls : Array Slot, lv_has ls 4 [(3, .int (nI i)), (2, .int x2), (0, .ref (g 0)), (1, .int (nI 6))] → W p l e ({ frames := 4, cells := 0, slots := 0, locals := 89 } : Room) s m args below meth c s.heap [] 0 0 (MQ below (k2_QcV (.int (ctT σ 6))) args s 0 0 (fun _ => False)) (F0 m 84 ls []) := by
      intro n84
      induction n84 with
      | zero =>
        intro i hi84 x2 ex2 ls hl
        obtain rfl : kU σ = i := by omega
        refine lv_iload_n hx hb dX5_counted_84 rfl (lv_at hl 0 rfl) ?_
        refine lv_aload_n hx hb dX5_counted_85 rfl (lv_at hl 2 rfl) ?_
        refine m_get hx hb hts in_X5_counted_X5 hown hK hM (MW.x hw) rfl 4 (by decide) (by decide +kernel) rfl dX5_counted_86 ?_
        refine lv_icmp_ge (tgt := 116) hx hb dX5_counted_89 (by decide) (fun c89 => ?_) (fun c9 => absurd (Int32.le_refl _) c9)
        refine lv_iload_n hx hb dX5_counted_116 rfl (lv_at hl 1 rfl) ?_
        exact r_i hx hb hr hlocks dX5_counted_117 (by first | rfl | exact ex2)
      | succ n84 ih84 =>
        intro i hi84 x2 ex2 ls hl
        have hlt84 : i < kU σ := by omega
        refine lv_iload_n hx hb dX5_counted_84 rfl (lv_at hl 0 rfl) ?_
        refine lv_aload_n hx hb dX5_counted_85 rfl (lv_at hl 2 rfl) ?_
        refine m_get hx hb hts in_X5_counted_X5 hown hK hM (MW.x hw) rfl 4 (by decide) (by decide +kernel) rfl dX5_counted_86 ?_
        refine lv_icmp_ge (tgt := 116) hx hb dX5_counted_89 (by decide) (fun c9 => absurd c9 (nI_ge hlt84 (by omega))) (fun c89 => ?_)
        refine lv_iload_n hx hb dX5_counted_92 rfl (lv_at hl 1 rfl) ?_
        refine lv_aload_n hx hb dX5_counted_93 rfl (lv_at hl 2 rfl) ?_
        refine lv_iload_n hx hb dX5_counted_94 rfl (lv_at hl 0 rfl) ?_
        refine lv_iconst (v := 3) hx hb dX5_counted_95 (by decide) ?_
        refine m_cV 2 [.int (nI i), .int 3] [.int x2] hx hb hml hown hts hK (c_pe l E A g M σ th hw i 3 (by omega) (by omega)) gX5_counted_X5_pe rfl rfl rfl (by decide +kernel) rfl ⟨Nat.le_of_ble_eq_true rfl, Nat.le_of_ble_eq_true rfl⟩ hM (MW.x hw) rfl rfl hM hl.1 (Nat.le_of_ble_eq_true rfl) ⟨Nat.le_of_ble_eq_true rfl, Nat.le_of_ble_eq_true rfl⟩ rfl dX5_counted_96 ?_
        refine lv_iconst (v := (-1)) hx hb dX5_counted_99 (by decide) ?_
        refine lv_icmp_ne (tgt := 107) hx hb dX5_counted_100 (by decide) (fun c100 => ?_) (fun c100 => ?_)
        · refine lv_iconst (v := 1) hx hb dX5_counted_107 (by decide) ?_
          refine lv_iadd hx hb dX5_counted_108 ?_
          refine lv_istore_n (lv' := [(2, .int (x2 + 1)), (3, .int (nI i)), (0, .ref (g 0)), (1, .int (nI 6))]) hx hb dX5_counted_109 rfl hl (by decide) rfl (fun ls hl => ?_)
          refine lv_iinc (v := nI (i + 1)) (lv' := [(3, .int (nI (i + 1))), (2, .int (x2 + 1)), (0, .ref (g 0)), (1, .int (nI 6))]) hx hb dX5_counted_110 hl (k := 1) rfl (m_inc _) (by decide) rfl (fun ls hl => ?_)
          refine lv_goto (tgt := 84) hx hb dX5_counted_113 (by decide) ?_
          exact ih84 (i + 1) (by omega) _ (by rw [bwA, if_pos c100, ex2]) ls (lv_sub hl [0, 1, 2, 3] rfl)
        · refine lv_iconst (v := 0) hx hb dX5_counted_103 (by decide) ?_
          refine lv_goto (tgt := 108) hx hb dX5_counted_104 (by decide) ?_
          refine lv_iadd hx hb dX5_counted_108 ?_
          refine lv_istore_n (lv' := [(2, .int (x2 + 0)), (3, .int (nI i)), (0, .ref (g 0)), (1, .int (nI 6))]) hx hb dX5_counted_109 rfl hl (by decide) rfl (fun ls hl => ?_)
          refine lv_iinc (v := nI (i + 1)) (lv' := [(3, .int (nI (i + 1))), (2, .int (x2 + 0)), (0, .ref (g 0)), (1, .int (nI 6))]) hx hb dX5_counted_110 hl (k := 1) rfl (m_inc _) (by decide) rfl (fun ls hl => ?_)
          refine lv_goto (tgt := 84) hx hb dX5_counted_113 (by decide) ?_
          exact ih84 (i + 1) (by omega) _ (by rw [bwA, if_neg (fun q => q c100), ex2, Int32.add_zero]) ls (lv_sub hl [0, 1, 2, 3] rfl)
    exact lp84 (kU σ) 0 (by omega) _ (rfl) ls (lv_sub hl [0, 1, 2, 3] rfl)
  · refine lv_tableIn (off := 115) (tgt := 118) hx hb dX5_counted_3 (by decide) (by decide) (by decide) (by decide) ?_
    refine lv_aload_n hx hb dX5_counted_118 rfl (lv_at hl 1 rfl) ?_
    refine m_get hx hb hts in_X5_counted_X5 hown hK hM (MW.x hw) rfl 9 (by decide) (by decide +kernel) rfl dX5_counted_119 ?_
    refine lv_iconst (v := 2) hx hb dX5_counted_122 (by decide) ?_
    refine m_iald (v := sB σ) hx hb hK hM m5 (ix_ok (n := 2) ⟨by decide, by decide⟩) (hf5.2.2) dX5_counted_123 ?_
    exact r_i hx hb hr hlocks dX5_counted_124 (by first | rfl | exact ex2)
  · refine lv_tableOut (tgt := 125) hx hb dX5_counted_3 (by decide) (by decide) ?_
    refine lv_iconst (v := 0) hx hb dX5_counted_125 (by decide) ?_
    refine lv_istore_n (lv' := [(3, .int 0), (2, .int 0), (0, .ref (g 0)), (1, .int (nI 8))]) hx hb dX5_counted_126 rfl hl (by decide) rfl (fun ls hl => ?_)
    have lp127 : ∀ (n127 i : Nat), n127 + i = kR σ → ∀ x2 : Int32, x2 = rtA σ i → ∀ ls : Array Slot, lv_has ls 4 [(3, .int (nI i)), (2, .int x2), (0, .ref (g 0)), (1, .int (nI 8))] → W p l e ({ frames := 4, cells := 0, slots := 0, locals := 89 } : Room) s m args below meth c s.heap [] 0 0 (MQ below (k2_QcV (.int (ctT σ 8))) args s 0 0 (fun _ => False)) (F0 m 127 ls []) := by
      intro n127
      induction n127 with
      | zero =>
        intro i hi127 x2 ex2 ls hl
        obtain rfl : kR σ = i := by omega
        refine lv_iload_n hx hb dX5_counted_127 rfl (lv_at hl 0 rfl) ?_
        refine lv_aload_n hx hb dX5_counted_128 rfl (lv_at hl 2 rfl) ?_
        refine m_get hx hb hts in_X5_counted_X5 hown hK hM (MW.x hw) rfl 1 (by decide) (by decide +kernel) rfl dX5_counted_129 ?_
        refine lv_icmp_ge (tgt := 158) hx hb dX5_counted_132 (by decide) (fun c132 => ?_) (fun c9 => absurd (Int32.le_refl _) c9)
        refine lv_iload_n hx hb dX5_counted_158 rfl (lv_at hl 1 rfl) ?_
        exact r_i hx hb hr hlocks dX5_counted_159 (by first | rfl | exact ex2)
      | succ n127 ih127 =>
        intro i hi127 x2 ex2 ls hl
        have hlt127 : i < kR σ := by omega
        refine lv_iload_n hx hb dX5_counted_127 rfl (lv_at hl 0 rfl) ?_
        refine lv_aload_n hx hb dX5_counted_128 rfl (lv_at hl 2 rfl) ?_
        refine m_get hx hb hts in_X5_counted_X5 hown hK hM (MW.x hw) rfl 1 (by decide) (by decide +kernel) rfl dX5_counted_129 ?_
        refine lv_icmp_ge (tgt := 158) hx hb dX5_counted_132 (by decide) (fun c9 => absurd c9 (nI_ge hlt127 (by omega))) (fun c132 => ?_)
        refine lv_iload_n hx hb dX5_counted_135 rfl (lv_at hl 1 rfl) ?_
        refine lv_aload_n hx hb dX5_counted_136 rfl (lv_at hl 2 rfl) ?_
        refine lv_iload_n hx hb dX5_counted_137 rfl (lv_at hl 0 rfl) ?_
        refine m_cV 1 [.int (nI i)] [.int x2] hx hb hml hown hts hK (c_winner l E A g M σ th hv hw i (by omega)) gX5_counted_X5_winner rfl rfl rfl (by decide +kernel) rfl ⟨Nat.le_of_ble_eq_true rfl, Nat.le_of_ble_eq_true rfl⟩ hM (MW.x hw) rfl rfl hM hl.1 (Nat.le_of_ble_eq_true rfl) ⟨Nat.le_of_ble_eq_true rfl, Nat.le_of_ble_eq_true rfl⟩ rfl dX5_counted_138 ?_
        refine lv_iconst (v := (-1)) hx hb dX5_counted_141 (by decide) ?_
        refine lv_icmp_ne (tgt := 149) hx hb dX5_counted_142 (by decide) (fun c142 => ?_) (fun c142 => ?_)
        · refine lv_iconst (v := 1) hx hb dX5_counted_149 (by decide) ?_
          refine lv_iadd hx hb dX5_counted_150 ?_
          refine lv_istore_n (lv' := [(2, .int (x2 + 1)), (3, .int (nI i)), (0, .ref (g 0)), (1, .int (nI 8))]) hx hb dX5_counted_151 rfl hl (by decide) rfl (fun ls hl => ?_)
          refine lv_iinc (v := nI (i + 1)) (lv' := [(3, .int (nI (i + 1))), (2, .int (x2 + 1)), (0, .ref (g 0)), (1, .int (nI 8))]) hx hb dX5_counted_152 hl (k := 1) rfl (m_inc _) (by decide) rfl (fun ls hl => ?_)
          refine lv_goto (tgt := 127) hx hb dX5_counted_155 (by decide) ?_
          exact ih127 (i + 1) (by omega) _ (by rw [rtA, if_pos c142, ex2]) ls (lv_sub hl [0, 1, 2, 3] rfl)
        · refine lv_iconst (v := 0) hx hb dX5_counted_145 (by decide) ?_
          refine lv_goto (tgt := 150) hx hb dX5_counted_146 (by decide) ?_
          refine lv_iadd hx hb dX5_counted_150 ?_
          refine lv_istore_n (lv' := [(2, .int (x2 + 0)), (3, .int (nI i)), (0, .ref (g 0)), (1, .int (nI 8))]) hx hb dX5_counted_151 rfl hl (by decide) rfl (fun ls hl => ?_)
          refine lv_iinc (v := nI (i + 1)) (lv' := [(3, .int (nI (i + 1))), (2, .int (x2 + 0)), (0, .ref (g 0)), (1, .int (nI 8))]) hx hb dX5_counted_152 hl (k := 1) rfl (m_inc _) (by decide) rfl (fun ls hl => ?_)
          refine lv_goto (tgt := 127) hx hb dX5_counted_155 (by decide) ?_
          exact ih127 (i + 1) (by omega) _ (by rw [rtA, if_neg (fun q => q c142), ex2, Int32.add_zero]) ls (lv_sub hl [0, 1, 2, 3] rfl)
    exact lp127 (kR σ) 0 (by omega) _ (rfl) ls (lv_sub hl [0, 1, 2, 3] rfl)
theorem in_X5_givenBack_X5 : ∀ w ∈ u_ws RX5 TX5 11, w ∈ wsX5_givenBack := by decide +kernel
set_option maxHeartbeats 4000000 in
set_option maxRecDepth 100000 in
theorem c_givenBack (l : Launch) (E : gE) (A : Nat → Prop) (g : Nat → Nat) (M : gM) (σ : Sg) (th : Int32) (hv : VS σ) (hw : MW E g M σ th) (z : Int32) : Met l yX5_givenBack wsX5_givenBack ({ frames := 5, cells := 0, slots := 0, locals := 113 } : Room) (Pm E [.ref (g 0), .int z] (mP E A g M)) (k2_QcV (.int (bkA σ z (kR σ)))) 0 0 (fun _ => False) := by
  refine m_entry (by decide) rfl (Nat.le_of_ble_eq_true rfl) ?_
  intro p e s m args below meth c hx hb hr hml hts hown hlocks hin hM hK ls hl
  have hl : lv_has ls 4 [(0, .ref (g 0)), (1, .int z)] := hl
  have hown : s.vm.findClass RX5 = some m.cls := hown
  obtain ⟨⟨hR9, hG9, hU9, hD9⟩, -⟩ := id hv
  obtain ⟨f1, m1, hf1⟩ := MW.house hw
  obtain ⟨f2, m2, hf2⟩ := MW.joined hw
  obtain ⟨f3, m3, hf3⟩ := MW.spooks hw
  obtain ⟨f4, m4, hf4⟩ := MW.people hw
  obtain ⟨f5, m5, hf5⟩ := MW.numbers hw
  refine lv_iconst (v := 0) hx hb dX5_givenBack_0 (by decide) ?_
  refine lv_istore_n (lv' := [(2, .int 0), (0, .ref (g 0)), (1, .int z)]) hx hb dX5_givenBack_1 rfl hl (by decide) rfl (fun ls hl => ?_)
  refine lv_iconst (v := 0) hx hb dX5_givenBack_2 (by decide) ?_
  refine lv_istore_n (lv' := [(3, .int 0), (2, .int 0), (0, .ref (g 0)), (1, .int z)]) hx hb dX5_givenBack_3 rfl hl (by decide) rfl (fun ls hl => ?_)
  have lp4 : ∀ (n4 i : Nat), n4 + i = kR σ → ∀ x2 : Int32, x2 = bkA σ z i → ∀ ls : Array Slot, lv_has ls 4 [(3, .int (nI i)), (2, .int x2), (0, .ref (g 0)), (1, .int z)] → W p l e ({ frames := 5, cells := 0, slots := 0, locals := 113 } : Room) s m args below meth c s.heap [] 0 0 (MQ below (k2_QcV (.int (bkA σ z (kR σ)))) args s 0 0 (fun _ => False)) (F0 m 4 ls []) := by
    intro n4
    induction n4 with
    | zero =>
      intro i hi4 x2 ex2 ls hl
      obtain rfl : kR σ = i := by omega
      refine lv_iload_n hx hb dX5_givenBack_4 rfl (lv_at hl 0 rfl) ?_
      refine lv_aload_n hx hb dX5_givenBack_5 rfl (lv_at hl 2 rfl) ?_
      refine m_get hx hb hts in_X5_givenBack_X5 hown hK hM (MW.x hw) rfl 1 (by decide) (by decide +kernel) rfl dX5_givenBack_6 ?_
      refine lv_icmp_ge (tgt := 59) hx hb dX5_givenBack_9 (by decide) (fun c9 => ?_) (fun c9 => absurd (Int32.le_refl _) c9)
      refine lv_iload_n hx hb dX5_givenBack_59 rfl (lv_at hl 1 rfl) ?_
      exact r_i hx hb hr hlocks dX5_givenBack_60 (by first | rfl | assumption)
    | succ n4 ih4 =>
      intro i hi4 x2 ex2 ls hl
      have hlt4 : i < kR σ := by omega
      refine lv_iload_n hx hb dX5_givenBack_4 rfl (lv_at hl 0 rfl) ?_
      refine lv_aload_n hx hb dX5_givenBack_5 rfl (lv_at hl 2 rfl) ?_
      refine m_get hx hb hts in_X5_givenBack_X5 hown hK hM (MW.x hw) rfl 1 (by decide) (by decide +kernel) rfl dX5_givenBack_6 ?_
      refine lv_icmp_ge (tgt := 59) hx hb dX5_givenBack_9 (by decide) (fun c9 => absurd c9 (nI_ge hlt4 (by omega))) (fun c9 => ?_)
      refine lv_aload_n hx hb dX5_givenBack_12 rfl (lv_at hl 2 rfl) ?_
      refine lv_iload_n hx hb dX5_givenBack_13 rfl (lv_at hl 0 rfl) ?_
      refine m_cV 1 [.int (nI i)] [] hx hb hml hown hts hK (c_winner l E A g M σ th hv hw i (by omega)) gX5_givenBack_X5_winner rfl rfl rfl (by decide +kernel) rfl ⟨Nat.le_of_ble_eq_true rfl, Nat.le_of_ble_eq_true rfl⟩ hM (MW.x hw) rfl rfl hM hl.1 (Nat.le_of_ble_eq_true rfl) ⟨Nat.le_of_ble_eq_true rfl, Nat.le_of_ble_eq_true rfl⟩ rfl dX5_givenBack_14 ?_
      refine lv_iconst (v := (-1)) hx hb dX5_givenBack_17 (by decide) ?_
      refine lv_icmp_eq (tgt := 53) hx hb dX5_givenBack_18 (by decide) (fun c18 => ?_) (fun c18 => ?_)
      · have hno9 := c18
        refine lv_iinc (v := nI (i + 1)) (lv' := [(3, .int (nI (i + 1))), (2, .int x2), (0, .ref (g 0)), (1, .int z)]) hx hb dX5_givenBack_53 hl (k := 0) rfl (m_inc _) (by decide) rfl (fun ls hl => ?_)
        refine lv_goto (tgt := 4) hx hb dX5_givenBack_56 (by decide) ?_
        exact ih4 (i + 1) (by omega) _ (by rw [bkA_no hno9, ex2]) ls (lv_sub hl [0, 1, 2, 3] rfl)
      · obtain ⟨u9, hu9, hw9, -⟩ := (wnr_nat σ i).resolve_left c18
        refine lv_aload_n hx hb dX5_givenBack_21 rfl (lv_at hl 2 rfl) ?_
        refine lv_aload_n hx hb dX5_givenBack_22 rfl (lv_at hl 2 rfl) ?_
        refine lv_iload_n hx hb dX5_givenBack_23 rfl (lv_at hl 0 rfl) ?_
        refine m_cV 1 [.int (nI i)] [.ref (g 0)] hx hb hml hown hts hK (c_winner l E A g M σ th hv hw i (by omega)) gX5_givenBack_X5_winner rfl rfl rfl (by decide +kernel) rfl ⟨Nat.le_of_ble_eq_true rfl, Nat.le_of_ble_eq_true rfl⟩ hM (MW.x hw) rfl rfl hM hl.1 (Nat.le_of_ble_eq_true rfl) ⟨Nat.le_of_ble_eq_true rfl, Nat.le_of_ble_eq_true rfl⟩ rfl dX5_givenBack_24 ?_
        rw [show (wnr σ i : Int32) = nI u9 from hw9]
        refine lv_iconst (v := 2) hx hb dX5_givenBack_27 (by decide) ?_
        refine m_cV 2 [.int (nI u9), .int 2] [] hx hb hml hown hts hK (c_pe l E A g M σ th hw u9 2 (by omega) (by omega)) gX5_givenBack_X5_pe rfl rfl rfl (by decide +kernel) rfl ⟨Nat.le_of_ble_eq_true rfl, Nat.le_of_ble_eq_true rfl⟩ hM (MW.x hw) rfl rfl hM hl.1 (Nat.le_of_ble_eq_true rfl) ⟨Nat.le_of_ble_eq_true rfl, Nat.le_of_ble_eq_true rfl⟩ rfl dX5_givenBack_28 ?_
        refine lv_aload_n hx hb dX5_givenBack_31 rfl (lv_at hl 2 rfl) ?_
        refine lv_iload_n hx hb dX5_givenBack_32 rfl (lv_at hl 0 rfl) ?_
        refine lv_iload_n hx hb dX5_givenBack_33 rfl (lv_at hl 3 rfl) ?_
        refine m_cV 2 [.int (nI i), .int z] [.int (sGu σ u9 2)] hx hb hml hown hts hK (c_haunted l E A g M σ th hv hw (nI i) z) gX5_givenBack_X5_haunted rfl rfl rfl (by decide +kernel) rfl ⟨Nat.le_of_ble_eq_true rfl, Nat.le_of_ble_eq_true rfl⟩ hM (MW.x hw) rfl rfl hM hl.1 (Nat.le_of_ble_eq_true rfl) ⟨Nat.le_of_ble_eq_true rfl, Nat.le_of_ble_eq_true rfl⟩ rfl dX5_givenBack_34 ?_
        refine m_cS 2 [.int (sGu σ u9 2), .int (hON σ (nI i) z 12)] [] hx hb hml hown hts hK (c_isBad l E A g M (sGu σ u9 2) (hON σ (nI i) z 12)) gX5_givenBack_X5_isBad rfl rfl rfl (by decide +kernel) rfl ⟨Nat.le_of_ble_eq_true rfl, Nat.le_of_ble_eq_true rfl⟩ trivial hl.1 (Nat.le_of_ble_eq_true rfl) ⟨Nat.le_of_ble_eq_true rfl, Nat.le_of_ble_eq_true rfl⟩ rfl dX5_givenBack_37 ?_
        refine lv_if_eq (tgt := 53) hx hb dX5_givenBack_40 (by decide) (fun c40 => ?_) (fun c40 => ?_)
        · have c40 := bI_f c40
          refine lv_iinc (v := nI (i + 1)) (lv' := [(3, .int (nI (i + 1))), (2, .int x2), (0, .ref (g 0)), (1, .int z)]) hx hb dX5_givenBack_53 hl (k := 0) rfl (m_inc _) (by decide) rfl (fun ls hl => ?_)
          refine lv_goto (tgt := 4) hx hb dX5_givenBack_56 (by decide) ?_
          exact ih4 (i + 1) (by omega) _ (by rw [bkA_n (by omega) hw9 c40, ex2]) ls (lv_sub hl [0, 1, 2, 3] rfl)
        · have c40 := bI_t c40
          refine lv_iload_n hx hb dX5_givenBack_43 rfl (lv_at hl 1 rfl) ?_
          refine lv_aload_n hx hb dX5_givenBack_44 rfl (lv_at hl 2 rfl) ?_
          refine lv_iload_n hx hb dX5_givenBack_45 rfl (lv_at hl 0 rfl) ?_
          refine m_cV 1 [.int (nI i)] [.int x2] hx hb hml hown hts hK (c_pays l E A g M σ th hv hw i (by omega)) gX5_givenBack_X5_pays rfl rfl rfl (by decide +kernel) rfl ⟨Nat.le_of_ble_eq_true rfl, Nat.le_of_ble_eq_true rfl⟩ hM (MW.x hw) rfl rfl hM hl.1 (Nat.le_of_ble_eq_true rfl) ⟨Nat.le_of_ble_eq_true rfl, Nat.le_of_ble_eq_true rfl⟩ rfl dX5_givenBack_46 ?_
          refine lv_iconst (v := 2) hx hb dX5_givenBack_49 (by decide) ?_
          refine lv_idiv hx hb dX5_givenBack_50 (by decide) ?_
          refine lv_iadd hx hb dX5_givenBack_51 ?_
          refine lv_istore_n (lv' := [(2, .int (x2 + ((due σ i (wnr σ i)) / 2))), (3, .int (nI i)), (0, .ref (g 0)), (1, .int z)]) hx hb dX5_givenBack_52 rfl hl (by decide) rfl (fun ls hl => ?_)
          refine lv_iinc (v := nI (i + 1)) (lv' := [(3, .int (nI (i + 1))), (2, .int (x2 + ((due σ i (wnr σ i)) / 2))), (0, .ref (g 0)), (1, .int z)]) hx hb dX5_givenBack_53 hl (k := 1) rfl (m_inc _) (by decide) rfl (fun ls hl => ?_)
          refine lv_goto (tgt := 4) hx hb dX5_givenBack_56 (by decide) ?_
          exact ih4 (i + 1) (by omega) _ (by rw [bkA_y (by omega) hw9 c40, ex2, hw9]) ls (lv_sub hl [0, 1, 2, 3] rfl)
  exact lp4 (kR σ) 0 (by omega) _ (rfl) ls (lv_sub hl [0, 1, 2, 3] rfl)
