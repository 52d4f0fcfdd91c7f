theorem c_withinY (l : Launch) (E : gE) (A : Nat → Prop) (g : Nat → Nat) (M : gM) (x lo hi : Int32) (h : lo ≤ x ∧ x ≤ hi) : Met l yX4_within wsX4_within ({ frames := 0, cells := 0, slots := 0, locals := 0 } : Room) (Pm E [.int x, .int lo, .int hi] (fun _ => True)) (k2_QcV (.int 1)) 0 0 (fun _ => False) := by
  have h9 := c_within l E A g M x lo hi
  rwa [decide_eq_true h] at h9
theorem c_upset (l : Launch) (E : gE) (A : Nat → Prop) (g : Nat → Nat) (M : gM) (tu : Nat) (ne co nv fo pr sl ba : Int32) (h : M tu = some (.inr (2, [.int ne, .int co, .int nv, .int fo, .int pr, .int sl, .int ba]))) (x : Int32) : Met l yX1_isUpsetBy wsX1_isUpsetBy ({ frames := 1, cells := 0, slots := 0, locals := 21 } : Room) (Pm E [.ref (g tu), .int x] (mP E A g M)) (k2_QcV (.int (bI (upB nv x)))) 0 0 (fun _ => False) := c_isUpsetBy l E A g M tu ne co nv fo pr sl ba h x
theorem c_fright (l : Launch) (E : gE) (A : Nat → Prop) (g : Nat → Nat) (M : gM) (tu : Nat) (ne co nv fo pr sl ba : Int32) (h : M tu = some (.inr (2, [.int ne, .int co, .int nv, .int fo, .int pr, .int sl, .int ba]))) (x : Int32) : Met l yX1_isFrightenedBy wsX1_isFrightenedBy ({ frames := 0, cells := 0, slots := 0, locals := 0 } : Room) (Pm E [.ref (g tu), .int x] (mP E A g M)) (k2_QcV (.int (bI (frB nv x)))) 0 0 (fun _ => False) := c_isFrightenedBy l E A g M tu ne co nv fo pr sl ba h x
theorem bit_nat : ∀ b, b < 1024 → ∀ j, j < 10 → bitAt (nI b) j = b.testBit j := by decide +kernel
theorem bit_hi {b n j : Nat} (hb : b < 2 ^ n) (hn : n ≤ 10) (hj : n ≤ j) (hj2 : j < 10) : bitAt (nI b) j = false := by
  rw [bit_nat b (Nat.lt_of_lt_of_le hb (Nat.pow_le_pow_right (by decide) hn)) j hj2]
  exact Nat.testBit_lt_two_pow (Nat.lt_of_lt_of_le hb (Nat.pow_le_pow_right (by decide) hj))
theorem fstB_none {b : Int32} : ∀ n lo, (∀ j, lo ≤ j → j < lo + n → bitAt b j = false) → fstB b lo n = none
  | 0, lo, _ => rfl
  | n + 1, lo, h => by
    rw [fstB, h lo (Nat.le_refl _) (by omega), if_neg (by decide)]
    exact fstB_none n (lo + 1) (fun j h1 h2 => h j (by omega) (by omega))
theorem fstB_some {b : Int32} {i : Nat} (hi : bitAt b i = true) : ∀ n lo, lo ≤ i → i < lo + n → (∀ j, lo ≤ j → j < i → bitAt b j = false) → fstB b lo n = some i
  | 0, lo, h1, h2, _ => absurd h2 (by omega)
  | n + 1, lo, h1, h2, h => by
    by_cases e : lo = i
    · subst e
      rw [fstB, hi, if_pos rfl]
    · rw [fstB, h lo (Nat.le_refl _) (by omega), if_neg (by decide)]
      exact fstB_some hi n (lo + 1) (by omega) (by omega) (fun j h3 h4 => h j (by omega) h4)
theorem not_true {x : Bool} (h : ¬ x = true) : x = false := by cases x <;> simp_all
theorem nxt_gt {b : Int32} {i r : Nat} (hi : bitAt b i = true) (hr : r < i) (h10 : i < 10) (hno : ∀ j, j < i → bitAt b j = true → j ≤ r) : nxt b r = i := by
  have h : fstB b (r + 1) (9 - r) = some i := fstB_some hi _ _ (by omega) (by omega) (fun j h1 h2 => not_true (fun q => by have := hno j h2 q; omega))
  rw [nxt, h]
/-- the smallest number with a bit so far -/
def smA (b : Int32) : Nat → Int32
  | 0 => -1
  | i + 1 => if bitAt b i = true ∧ smA b i = -1 then nI i else smA b i
theorem smA_spec (b : Int32) : ∀ n, n ≤ 10 → (smA b n = -1 ∧ ∀ j, j < n → bitAt b j = false) ∨ ∃ i, i < n ∧ smA b n = nI i ∧ bitAt b i = true ∧ ∀ j, j < i → bitAt b j = false
  | 0, _ => Or.inl ⟨rfl, fun j h => absurd h (by omega)⟩
  | n + 1, hn => by
    rcases smA_spec b n (by omega) with ⟨h1, h2⟩ | ⟨i, h1, h2, h3, h4⟩
    · by_cases hb : bitAt b n = true
      · exact Or.inr ⟨n, by omega, by rw [smA, if_pos ⟨hb, h1⟩], hb, h2⟩
      · refine Or.inl ⟨by rw [smA, if_neg (fun q => hb q.1), h1], fun j hj => ?_⟩
        rcases Nat.lt_succ_iff_lt_or_eq.mp hj with q | q
        · exact h2 j q
        · subst q; exact not_true hb
    · exact Or.inr ⟨i, by omega, by rw [smA, if_neg (fun q => nI_ne1 (n := i) (by omega) (h2 ▸ q.2)), h2], h3, h4⟩
theorem nxt_end {b : Int32} {n r : Nat} (hr : r < n) (hn : n ≤ 10) (hno : ∀ j, j < n → bitAt b j = true → j ≤ r) (hhi : ∀ j, n ≤ j → j < 10 → bitAt b j = false) : nI (nxt b r) = if smA b n = -1 then nI r else smA b n := by
  have h0 : fstB b (r + 1) (9 - r) = none := fstB_none _ _ (fun j h1 h2 => not_true (fun q => by
    rcases Nat.lt_or_ge j n with z | z
    · have := hno j z q; omega
    · rw [hhi j z (by omega)] at q; cases q))
  rcases smA_spec b n hn with ⟨h1, h2⟩ | ⟨i, h1, h2, h3, h4⟩
  · have h5 : fstB b 0 10 = none := fstB_none _ _ (fun j _ hj => by
      rcases Nat.lt_or_ge j n with z | z
      · exact h2 j z
      · exact hhi j z (by omega))
    rw [nxt, h0, h5, if_pos h1]
  · have h5 : fstB b 0 10 = some i := fstB_some h3 _ _ (by omega) (by omega) (fun j _ hj => h4 j hj)
    rw [nxt, h0, h5, if_neg (by rw [h2]; exact nI_ne1 (by omega)), h2]
theorem VS.bits {σ : Sg} (hv : VS σ) (i j : Nat) (h1 : kR σ ≤ j) (h2 : j < 10) : bitAt (sJn σ i) j = false := by
  obtain ⟨b, hb, e⟩ := hv.2.2.2.2 i
  rw [e]
  exact bit_hi hb hv.1.1 h1 h2
theorem in_X4_nextRoom_X4 : ∀ w ∈ u_ws RX4 TX4 8, w ∈ wsX4_nextRoom := by decide +kernel
set_option maxHeartbeats 4000000 in
set_option maxRecDepth 100000 in
theorem c_nextRoom (l : Launch) (E : gE) (A : Nat → Prop) (g : Nat → Nat) (M : gM) (σ : Sg) (hv : VS σ) (hw : CW E g M σ) (r : Nat) (hr9 : r < kR σ) : Met l yX4_nextRoom wsX4_nextRoom ({ frames := 3, cells := 0, slots := 0, locals := 64 } : Room) (Pm E [.ref (g 0), .int (nI r)] (mP E A g M)) (k2_QcV (.int (nI (nxt (sJn σ r) r)))) 0 0 (fun _ => False) := by
  refine m_entry (by decide) rfl (Nat.le_of_ble_eq_true rfl) ?_
  intro p e s m args below meth c hx hb hr hml hts hown hlocks hin hM hK ls hl
  have hl : lv_has ls 5 [(0, .ref (g 0)), (1, .int (nI r))] := hl
  have hown : s.vm.findClass RX4 = some m.cls := hown
  obtain ⟨⟨hR9, hG9, hU9, hD9⟩, -⟩ := id hv
  obtain ⟨mc1, el1, h1, -⟩ := CW.LR hw
  obtain ⟨mc2, el2, h2, -⟩ := CW.LG hw
  obtain ⟨mc3, el3, h3, -⟩ := CW.LU hw
  refine lv_aload_n hx hb dX4_nextRoom_0 rfl (lv_at hl 0 rfl) ?_
  refine lv_iload_n hx hb dX4_nextRoom_1 rfl (lv_at hl 1 rfl) ?_
  refine m_cV 1 [.int (nI r)] [] hx hb hml hown hts hK (c_isRoomY l E A g M σ hv hw r (by omega)) gX4_nextRoom_X4_isRoom rfl rfl rfl (by decide +kernel) rfl ⟨Nat.le_of_ble_eq_true rfl, Nat.le_of_ble_eq_true rfl⟩ hM (CW.x hw) rfl rfl hM hl.1 (Nat.le_of_ble_eq_true rfl) ⟨Nat.le_of_ble_eq_true rfl, Nat.le_of_ble_eq_true rfl⟩ rfl dX4_nextRoom_2 ?_
  refine lv_if_ne (tgt := 10) hx hb dX4_nextRoom_5 (by decide) (fun c9 => ?_) (fun c9 => absurd c9 (by decide))
  refine lv_aload_n hx hb dX4_nextRoom_10 rfl (lv_at hl 0 rfl) ?_
  refine m_get hx hb hts in_X4_nextRoom_X4 hown hK hM (CW.x hw) rfl 0 (by decide) (by decide +kernel) rfl dX4_nextRoom_11 ?_
  refine lv_iload_n hx hb dX4_nextRoom_14 rfl (lv_at hl 1 rfl) ?_
  refine m_cV 1 [.int (nI r)] [] hx hb hml hown hts hK (c_get l E A g M (CW.LR hw) (by omega) r (by omega)) gX4_nextRoom_Jx4a65c_get_915e3 rfl rfl rfl (by decide +kernel) rfl ⟨Nat.le_of_ble_eq_true rfl, Nat.le_of_ble_eq_true rfl⟩ hM h1 rfl rfl hM hl.1 (Nat.le_of_ble_eq_true rfl) ⟨Nat.le_of_ble_eq_true rfl, Nat.le_of_ble_eq_true rfl⟩ rfl dX4_nextRoom_15 ?_
  refine m_cast (ci := 3) hx hb hts hown (by decide +kernel) hK hM (CW.room hw (i := r) (by omega)) rfl dX4_nextRoom_18 ?_
  refine lv_astore_n (lv' := [(2, .ref (g (100 + r))), (0, .ref (g 0)), (1, .int (nI r))]) hx hb dX4_nextRoom_21 rfl hl (by decide) rfl (fun ls hl => ?_)
  refine lv_iconst (v := (-1)) hx hb dX4_nextRoom_22 (by decide) ?_
  refine lv_istore_n (lv' := [(3, .int (-1)), (2, .ref (g (100 + r))), (0, .ref (g 0)), (1, .int (nI r))]) hx hb dX4_nextRoom_23 rfl hl (by decide) rfl (fun ls hl => ?_)
  refine lv_iconst (v := 0) hx hb dX4_nextRoom_24 (by decide) ?_
  refine lv_istore (lv' := [(4, .int 0), (3, .int (-1)), (2, .ref (g (100 + r))), (0, .ref (g 0)), (1, .int (nI r))]) hx hb dX4_nextRoom_25 hl (by decide) rfl (fun ls hl => ?_)
  have lp27 : ∀ (n27 i : Nat), n27 + i = kR σ → ∀ x3 : Int32, x3 = smA (sJn σ r) i → (∀ j, j < i → bitAt (sJn σ r) j = true → j ≤ r) → ∀ ls : Array Slot, lv_has ls 5 [(4, .int (nI i)), (3, .int x3), (2, .ref (g (100 + r))), (0, .ref (g 0)), (1, .int (nI r))] → W p l e ({ frames := 3, cells := 0, slots := 0, locals := 64 } : Room) s m args below meth c s.heap [] 0 0 (MQ below (k2_QcV (.int (nI (nxt (sJn σ r) r)))) args s 0 0 (fun _ => False)) (F0 m 27 ls []) := by
    intro n27
    induction n27 with
    | zero =>
      intro i hi27 x3 ex3 hno ls hl
      obtain rfl : kR σ = i := by omega
      refine lv_iload hx hb dX4_nextRoom_27 (lv_at hl 0 rfl) ?_
      refine lv_aload_n hx hb dX4_nextRoom_29 rfl (lv_at hl 3 rfl) ?_
      refine m_get hx hb hts in_X4_nextRoom_X4 hown hK hM (CW.x hw) rfl 0 (by decide) (by decide +kernel) rfl dX4_nextRoom_30 ?_
      refine m_cV 0 [] [.int (nI (kR σ))] hx hb hml hown hts hK (c_size l E A g M (CW.LR hw)) gX4_nextRoom_Jx4a65c_size_8abf5 rfl rfl rfl (by decide +kernel) rfl ⟨Nat.le_of_ble_eq_true rfl, Nat.le_of_ble_eq_true rfl⟩ hM h1 rfl rfl hM hl.1 (Nat.le_of_ble_eq_true rfl) ⟨Nat.le_of_ble_eq_true rfl, Nat.le_of_ble_eq_true rfl⟩ rfl dX4_nextRoom_33 ?_
      refine lv_icmp_ge (tgt := 71) hx hb dX4_nextRoom_36 (by decide) (fun c36 => ?_) (fun c9 => absurd (Int32.le_refl _) c9)
      refine lv_iload_n hx hb dX4_nextRoom_71 rfl (lv_at hl 1 rfl) ?_
      refine lv_iconst (v := (-1)) hx hb dX4_nextRoom_72 (by decide) ?_
      refine lv_icmp_ne (tgt := 80) hx hb dX4_nextRoom_73 (by decide) (fun c73 => ?_) (fun c73 => ?_)
      · refine lv_iload_n hx hb dX4_nextRoom_80 rfl (lv_at hl 1 rfl) ?_
        exact r_i hx hb hr hlocks dX4_nextRoom_81 (by rw [nxt_end hr9 hR9 hno (fun j h1 h2 => VS.bits hv r j h1 h2), ← ex3, if_neg c73])
      · refine lv_iload_n hx hb dX4_nextRoom_76 rfl (lv_at hl 4 rfl) ?_
        refine lv_goto (tgt := 81) hx hb dX4_nextRoom_77 (by decide) ?_
        exact r_i hx hb hr hlocks dX4_nextRoom_81 (by rw [nxt_end hr9 hR9 hno (fun j h1 h2 => VS.bits hv r j h1 h2), ← ex3, if_pos c73])
    | succ n27 ih27 =>
      intro i hi27 x3 ex3 hno ls hl
      have hlt27 : i < kR σ := by omega
      refine lv_iload hx hb dX4_nextRoom_27 (lv_at hl 0 rfl) ?_
      refine lv_aload_n hx hb dX4_nextRoom_29 rfl (lv_at hl 3 rfl) ?_
      refine m_get hx hb hts in_X4_nextRoom_X4 hown hK hM (CW.x hw) rfl 0 (by decide) (by decide +kernel) rfl dX4_nextRoom_30 ?_
      refine m_cV 0 [] [.int (nI i)] hx hb hml hown hts hK (c_size l E A g M (CW.LR hw)) gX4_nextRoom_Jx4a65c_size_8abf5 rfl rfl rfl (by decide +kernel) rfl ⟨Nat.le_of_ble_eq_true rfl, Nat.le_of_ble_eq_true rfl⟩ hM h1 rfl rfl hM hl.1 (Nat.le_of_ble_eq_true rfl) ⟨Nat.le_of_ble_eq_true rfl, Nat.le_of_ble_eq_true rfl⟩ rfl dX4_nextRoom_33 ?_
      refine lv_icmp_ge (tgt := 71) hx hb dX4_nextRoom_36 (by decide) (fun c9 => absurd c9 (nI_ge hlt27 (by omega))) (fun c36 => ?_)
      refine lv_aload_n hx hb dX4_nextRoom_39 rfl (lv_at hl 2 rfl) ?_
      refine lv_iload hx hb dX4_nextRoom_40 (lv_at hl 0 rfl) ?_
      refine m_cV 1 [.int (nI i)] [] hx hb hml hown hts hK (c_leadsTo l E A g M (100 + r) (sRm σ r 0) (sRm σ r 2) (sRm σ r 1) (sRm σ r 3) (sRm σ r 4) (sJn σ r) (CW.room hw (by omega)) i) gX4_nextRoom_X2_leadsTo rfl rfl rfl (by decide +kernel) rfl ⟨Nat.le_of_ble_eq_true rfl, Nat.le_of_ble_eq_true rfl⟩ hM (CW.room hw (i := r) (by omega)) rfl rfl hM hl.1 (Nat.le_of_ble_eq_true rfl) ⟨Nat.le_of_ble_eq_true rfl, Nat.le_of_ble_eq_true rfl⟩ rfl dX4_nextRoom_42 ?_
      refine lv_if_eq (tgt := 65) hx hb dX4_nextRoom_45 (by decide) (fun c45 => ?_) (fun c45 => ?_)
      · have c45 := bI_f c45
        refine lv_iinc (v := nI (i + 1)) (lv' := [(4, .int (nI (i + 1))), (3, .int x3), (2, .ref (g (100 + r))), (0, .ref (g 0)), (1, .int (nI r))]) hx hb dX4_nextRoom_65 hl (k := 0) rfl (m_inc _) (by decide) rfl (fun ls hl => ?_)
        refine lv_goto (tgt := 27) hx hb dX4_nextRoom_68 (by decide) ?_
        exact ih27 (i + 1) (by omega) _ (by simp only [smA, c36, c45, ← ex3, if_true, if_false, true_and, and_true, false_and, and_false, not_true_eq_false, not_false_eq_true, reduceCtorEq, eq_self_iff_true, and_self, Bool.false_eq_true, Bool.not_eq_true]) (by intro j hj hb9; rcases Nat.lt_succ_iff_lt_or_eq.mp hj with q | q; exact hno j q hb9; subst q; first | exact (Nat.le_of_not_lt (fun z => absurd c51 (nI_ge z (by omega)))) | (rw [c45] at hb9; cases hb9)) ls (lv_sub hl [0, 1, 2, 3, 4] rfl)
      · have c45 := bI_t c45
        refine lv_iload hx hb dX4_nextRoom_48 (lv_at hl 0 rfl) ?_
        refine lv_iload_n hx hb dX4_nextRoom_50 rfl (lv_at hl 4 rfl) ?_
        refine lv_icmp_le (tgt := 57) hx hb dX4_nextRoom_51 (by decide) (fun c51 => ?_) (fun c51 => ?_)
        · refine lv_iload_n hx hb dX4_nextRoom_57 rfl (lv_at hl 1 rfl) ?_
          refine lv_iconst (v := (-1)) hx hb dX4_nextRoom_58 (by decide) ?_
          refine lv_icmp_ne (tgt := 65) hx hb dX4_nextRoom_59 (by decide) (fun c59 => ?_) (fun c59 => ?_)
          · refine lv_iinc (v := nI (i + 1)) (lv' := [(4, .int (nI (i + 1))), (3, .int x3), (2, .ref (g (100 + r))), (0, .ref (g 0)), (1, .int (nI r))]) hx hb dX4_nextRoom_65 hl (k := 0) rfl (m_inc _) (by decide) rfl (fun ls hl => ?_)
            refine lv_goto (tgt := 27) hx hb dX4_nextRoom_68 (by decide) ?_
            exact ih27 (i + 1) (by omega) _ (by simp only [smA, c36, c45, c51, c59, ← ex3, if_true, if_false, true_and, and_true, false_and, and_false, not_true_eq_false, not_false_eq_true, reduceCtorEq, eq_self_iff_true, and_self, Bool.false_eq_true, Bool.not_eq_true]) (by intro j hj hb9; rcases Nat.lt_succ_iff_lt_or_eq.mp hj with q | q; exact hno j q hb9; subst q; first | exact (Nat.le_of_not_lt (fun z => absurd c51 (nI_ge z (by omega)))) | (rw [c45] at hb9; cases hb9)) ls (lv_sub hl [0, 1, 2, 3, 4] rfl)
          · refine lv_iload hx hb dX4_nextRoom_62 (lv_at hl 0 rfl) ?_
            refine lv_istore_n (lv' := [(3, .int (nI i)), (4, .int (nI i)), (2, .ref (g (100 + r))), (0, .ref (g 0)), (1, .int (nI r))]) hx hb dX4_nextRoom_64 rfl hl (by decide) rfl (fun ls hl => ?_)
            refine lv_iinc (v := nI (i + 1)) (lv' := [(4, .int (nI (i + 1))), (3, .int (nI i)), (2, .ref (g (100 + r))), (0, .ref (g 0)), (1, .int (nI r))]) hx hb dX4_nextRoom_65 hl (k := 1) rfl (m_inc _) (by decide) rfl (fun ls hl => ?_)
            refine lv_goto (tgt := 27) hx hb dX4_nextRoom_68 (by decide) ?_
            exact ih27 (i + 1) (by omega) _ (by simp only [smA, c36, c45, c51, c59, ← ex3, if_true, if_false, true_and, and_true, false_and, and_false, not_true_eq_false, not_false_eq_true, reduceCtorEq, eq_self_iff_true, and_self, Bool.false_eq_true, Bool.not_eq_true]) (by intro j hj hb9; rcases Nat.lt_succ_iff_lt_or_eq.mp hj with q | q; exact hno j q hb9; subst q; first | exact (Nat.le_of_not_lt (fun z => absurd c51 (nI_ge z (by omega)))) | (rw [c45] at hb9; cases hb9)) ls (lv_sub hl [0, 1, 2, 3, 4] rfl)
        · refine lv_iload hx hb dX4_nextRoom_54 (lv_at hl 0 rfl) ?_
          exact r_i hx hb hr hlocks dX4_nextRoom_56 (by rw [nxt_gt c45 (Nat.lt_of_not_le (fun q => c51 (nI_le q (by omega)))) (by omega) hno])
  exact lp27 (kR σ) 0 (by omega) _ (rfl) (fun j hj => absurd hj (Nat.not_lt_zero j)) ls (lv_sub hl [0, 1, 2, 3, 4] rfl)
def bkA (σ : Sg) (z : Int32) : Nat → Int32
  | 0 => 0
  | k + 1 => match (wnr σ k == -1), upB (sGu σ (wnr σ k).toNatClampNeg 2) (hON σ (nI k) z 12) with
    | false, true => bkA σ z k + due σ k (wnr σ k) / 2
    | _, _ => bkA σ z k
theorem bkA_no {σ : Sg} {z : Int32} {k : Nat} (h : wnr σ k = -1) : bkA σ z (k + 1) = bkA σ z k := by rw [bkA, h]; rfl
theorem bkA_n {σ : Sg} {z : Int32} {k u : Nat} (hu : u < 2 ^ 31) (h : wnr σ k = nI u) (h2 : upB (sGu σ u 2) (hON σ (nI k) z 12) = false) : bkA σ z (k + 1) = bkA σ z k := by
  rw [bkA, h, nI_clamp hu, h2]
  cases (nI u == -1) <;> rfl
theorem bkA_y {σ : Sg} {z : Int32} {k u : Nat} (hu : u < 2 ^ 31) (h : wnr σ k = nI u) (h2 : upB (sGu σ u 2) (hON σ (nI k) z 12) = true) : bkA σ z (k + 1) = bkA σ z k + due σ k (nI u) / 2 := by
  rw [bkA, h, nI_clamp hu, h2, show (nI u == -1) = false from beq_eq_false_iff_ne.mpr (nI_ne1 hu)]
def besA (σ : Sg) (u : Nat) : Nat → Int32 × Int32
  | 0 => (-1, -1)
  | k + 1 => if ¬ sRm σ k 1 ≤ (besA σ u k).2 ∧ ¬ sRm σ k 0 < sGu σ u 1 ∧ ¬ sGu σ u 0 < sRm σ k 2 ∧ upB (sGu σ u 2) (hON σ (nI k) (-1) 12) = false then (nI k, sRm σ k 1) else besA σ u k
theorem in_X4_backTonight_X4 : ∀ w ∈ u_ws RX4 TX4 8, w ∈ wsX4_backTonight := by decide +kernel
set_option maxHeartbeats 4000000 in
set_option maxRecDepth 100000 in
theorem c_backTonight (l : Launch) (E : gE) (A : Nat → Prop) (g : Nat → Nat) (M : gM) (σ : Sg) (hv : VS σ) (hw : CW E g M σ) (hp : PW E M σ) (z : Int32) : Met l yX4_backTonight wsX4_backTonight ({ frames := 5, cells := 0, slots := 0, locals := 114 } : Room) (Pm E [.ref (g 0), .int z] (mP E A g M)) (k2_QcV (.int (bkA σ z (kR σ)))) 0 0 (fun _ => False) := by
  refine m_entry (by decide) rfl (Nat.le_of_ble_eq_true rfl) ?_
  intro p e s m args below meth c hx hb hr hml hts hown hlocks hin hM hK ls hl
  have hl : lv_has ls 5 [(0, .ref (g 0)), (1, .int z)] := hl
  have hown : s.vm.findClass RX4 = some m.cls := hown
  obtain ⟨⟨hR9, hG9, hU9, hD9⟩, -⟩ := id hv
  obtain ⟨mc1, el1, h1, -⟩ := CW.LR hw
  obtain ⟨mc2, el2, h2, -⟩ := CW.LG hw
  obtain ⟨mc3, el3, h3, -⟩ := CW.LU hw
  refine lv_iconst (v := 0) hx hb dX4_backTonight_0 (by decide) ?_
  refine lv_istore_n (lv' := [(2, .int 0), (0, .ref (g 0)), (1, .int z)]) hx hb dX4_backTonight_1 rfl hl (by decide) rfl (fun ls hl => ?_)
  refine lv_iconst (v := 0) hx hb dX4_backTonight_2 (by decide) ?_
  refine lv_istore_n (lv' := [(3, .int 0), (2, .int 0), (0, .ref (g 0)), (1, .int z)]) hx hb dX4_backTonight_3 rfl hl (by decide) rfl (fun ls hl => ?_)
  have lp4 : ∀ (n4 i : Nat), n4 + i = kR σ → ∀ x2 : Int32, x2 = bkA σ z i → ∀ ls : Array Slot, lv_has ls 5 [(3, .int (nI i)), (2, .int x2), (0, .ref (g 0)), (1, .int z)] → W p l e ({ frames := 5, cells := 0, slots := 0, locals := 114 } : Room) s m args below meth c s.heap [] 0 0 (MQ below (k2_QcV (.int (bkA σ z (kR σ)))) args s 0 0 (fun _ => False)) (F0 m 4 ls []) := by
    intro n4
    induction n4 with
    | zero =>
      intro i hi4 x2 ex2 ls hl
      obtain rfl : kR σ = i := by omega
      refine lv_iload_n hx hb dX4_backTonight_4 rfl (lv_at hl 0 rfl) ?_
      refine lv_aload_n hx hb dX4_backTonight_5 rfl (lv_at hl 2 rfl) ?_
      refine m_get hx hb hts in_X4_backTonight_X4 hown hK hM (CW.x hw) rfl 0 (by decide) (by decide +kernel) rfl dX4_backTonight_6 ?_
      refine m_cV 0 [] [.int (nI (kR σ))] hx hb hml hown hts hK (c_size l E A g M (CW.LR hw)) gX4_backTonight_Jx4a65c_size_8abf5 rfl rfl rfl (by decide +kernel) rfl ⟨Nat.le_of_ble_eq_true rfl, Nat.le_of_ble_eq_true rfl⟩ hM h1 rfl rfl hM hl.1 (Nat.le_of_ble_eq_true rfl) ⟨Nat.le_of_ble_eq_true rfl, Nat.le_of_ble_eq_true rfl⟩ rfl dX4_backTonight_9 ?_
      refine lv_icmp_ge (tgt := 73) hx hb dX4_backTonight_12 (by decide) (fun c12 => ?_) (fun c9 => absurd (Int32.le_refl _) c9)
      refine lv_iload_n hx hb dX4_backTonight_73 rfl (lv_at hl 1 rfl) ?_
      exact r_i hx hb hr hlocks dX4_backTonight_74 (by first | rfl | assumption)
    | succ n4 ih4 =>
      intro i hi4 x2 ex2 ls hl
      have hlt4 : i < kR σ := by omega
      refine lv_iload_n hx hb dX4_backTonight_4 rfl (lv_at hl 0 rfl) ?_
      refine lv_aload_n hx hb dX4_backTonight_5 rfl (lv_at hl 2 rfl) ?_
      refine m_get hx hb hts in_X4_backTonight_X4 hown hK hM (CW.x hw) rfl 0 (by decide) (by decide +kernel) rfl dX4_backTonight_6 ?_
      refine m_cV 0 [] [.int (nI i)] hx hb hml hown hts hK (c_size l E A g M (CW.LR hw)) gX4_backTonight_Jx4a65c_size_8abf5 rfl rfl rfl (by decide +kernel) rfl ⟨Nat.le_of_ble_eq_true rfl, Nat.le_of_ble_eq_true rfl⟩ hM h1 rfl rfl hM hl.1 (Nat.le_of_ble_eq_true rfl) ⟨Nat.le_of_ble_eq_true rfl, Nat.le_of_ble_eq_true rfl⟩ rfl dX4_backTonight_9 ?_
      refine lv_icmp_ge (tgt := 73) hx hb dX4_backTonight_12 (by decide) (fun c9 => absurd c9 (nI_ge hlt4 (by omega))) (fun c12 => ?_)
      refine lv_aload_n hx hb dX4_backTonight_15 rfl (lv_at hl 2 rfl) ?_
      refine lv_iload_n hx hb dX4_backTonight_16 rfl (lv_at hl 0 rfl) ?_
      refine m_cV 1 [.int (nI i)] [] hx hb hml hown hts hK (c_winnerOf l E A g M σ hv hw hp i (by omega)) gX4_backTonight_X4_winnerOf rfl rfl rfl (by decide +kernel) rfl ⟨Nat.le_of_ble_eq_true rfl, Nat.le_of_ble_eq_true rfl⟩ hM (CW.x hw) rfl rfl hM hl.1 (Nat.le_of_ble_eq_true rfl) ⟨Nat.le_of_ble_eq_true rfl, Nat.le_of_ble_eq_true rfl⟩ rfl dX4_backTonight_17 ?_
      refine lv_istore (lv' := [(4, .int (wnr σ i)), (3, .int (nI i)), (2, .int x2), (0, .ref (g 0)), (1, .int z)]) hx hb dX4_backTonight_20 hl (by decide) rfl (fun ls hl => ?_)
      refine lv_aload_n hx hb dX4_backTonight_22 rfl (lv_at hl 3 rfl) ?_
      refine lv_iload hx hb dX4_backTonight_23 (lv_at hl 0 rfl) ?_
      refine m_cV 1 [.int (wnr σ i)] [] hx hb hml hown hts hK (c_isGuest l E A g M σ hv hw (wnr σ i)) gX4_backTonight_X4_isGuest rfl rfl rfl (by decide +kernel) rfl ⟨Nat.le_of_ble_eq_true rfl, Nat.le_of_ble_eq_true rfl⟩ hM (CW.x hw) rfl rfl hM hl.1 (Nat.le_of_ble_eq_true rfl) ⟨Nat.le_of_ble_eq_true rfl, Nat.le_of_ble_eq_true rfl⟩ rfl dX4_backTonight_25 ?_
      refine lv_if_eq (tgt := 67) hx hb dX4_backTonight_28 (by decide) (fun c28 => ?_) (fun c28 => ?_)
      · have c28 := of_decide_eq_false (bI_f c28)
        have hno9 := wnr_lt σ i hU9 c28
        refine lv_iinc (v := nI (i + 1)) (lv' := [(3, .int (nI (i + 1))), (4, .int (wnr σ i)), (2, .int x2), (0, .ref (g 0)), (1, .int z)]) hx hb dX4_backTonight_67 hl (k := 1) rfl (m_inc _) (by decide) rfl (fun ls hl => ?_)
        refine lv_goto (tgt := 4) hx hb dX4_backTonight_70 (by decide) ?_
        exact ih4 (i + 1) (by omega) _ (by rw [bkA_no hno9, ex2]) ls (lv_sub hl [0, 2, 3, 4] rfl)
      · have c28 := of_decide_eq_true (bI_t c28)
        obtain ⟨u9, hu9, hw9, -⟩ := wnr_ge σ i hU9 c28
        rw [hw9] at hl
        refine lv_aload_n hx hb dX4_backTonight_31 rfl (lv_at hl 3 rfl) ?_
        refine m_get hx hb hts in_X4_backTonight_X4 hown hK hM (CW.x hw) rfl 2 (by decide) (by decide +kernel) rfl dX4_backTonight_32 ?_
        refine lv_iload hx hb dX4_backTonight_35 (lv_at hl 0 rfl) ?_
        refine m_cV 1 [.int (nI u9)] [] hx hb hml hown hts hK (c_get l E A g M (CW.LU hw) (by omega) u9 (by omega)) gX4_backTonight_Jx4a65c_get_915e3 rfl rfl rfl (by decide +kernel) rfl ⟨Nat.le_of_ble_eq_true rfl, Nat.le_of_ble_eq_true rfl⟩ hM h3 rfl rfl hM hl.1 (Nat.le_of_ble_eq_true rfl) ⟨Nat.le_of_ble_eq_true rfl, Nat.le_of_ble_eq_true rfl⟩ rfl dX4_backTonight_37 ?_
        refine m_cast (ci := 2) hx hb hts hown (by decide +kernel) hK hM (CW.guest hw (i := u9) (by omega)) rfl dX4_backTonight_40 ?_
        refine lv_aload_n hx hb dX4_backTonight_43 rfl (lv_at hl 3 rfl) ?_
        refine lv_iload_n hx hb dX4_backTonight_44 rfl (lv_at hl 1 rfl) ?_
        refine lv_iload_n hx hb dX4_backTonight_45 rfl (lv_at hl 4 rfl) ?_
        refine m_cV 2 [.int (nI i), .int z] [.ref (g (400 + u9))] hx hb hml hown hts hK (c_hON l E A g M σ hv hw hp (nI i) z) gX4_backTonight_X4_hauntingOfNight rfl rfl rfl (by decide +kernel) rfl ⟨Nat.le_of_ble_eq_true rfl, Nat.le_of_ble_eq_true rfl⟩ hM (CW.x hw) rfl rfl hM hl.1 (Nat.le_of_ble_eq_true rfl) ⟨Nat.le_of_ble_eq_true rfl, Nat.le_of_ble_eq_true rfl⟩ rfl dX4_backTonight_46 ?_
        refine m_cV 1 [.int (hON σ (nI i) z 12)] [] hx hb hml hown hts hK (c_upset l E A g M (400 + u9) (sGu σ u9 1) (sGu σ u9 0) (sGu σ u9 2) (sGu σ u9 3) (sGu σ u9 4) (sGu σ u9 5) (sGu σ u9 6) (CW.guest hw (by omega)) (hON σ (nI i) z 12)) gX4_backTonight_X1_isUpsetBy rfl rfl rfl (by decide +kernel) rfl ⟨Nat.le_of_ble_eq_true rfl, Nat.le_of_ble_eq_true rfl⟩ hM (CW.guest hw (i := u9) (by omega)) rfl rfl hM hl.1 (Nat.le_of_ble_eq_true rfl) ⟨Nat.le_of_ble_eq_true rfl, Nat.le_of_ble_eq_true rfl⟩ rfl dX4_backTonight_49 ?_
        refine lv_if_eq (tgt := 67) hx hb dX4_backTonight_52 (by decide) (fun c52 => ?_) (fun c52 => ?_)
        · have c52 := bI_f c52
          refine lv_iinc (v := nI (i + 1)) (lv' := [(3, .int (nI (i + 1))), (4, .int (nI u9)), (2, .int x2), (0, .ref (g 0)), (1, .int z)]) hx hb dX4_backTonight_67 hl (k := 1) rfl (m_inc _) (by decide) rfl (fun ls hl => ?_)
          refine lv_goto (tgt := 4) hx hb dX4_backTonight_70 (by decide) ?_
          exact ih4 (i + 1) (by omega) _ (by rw [bkA_n (by omega) hw9 c52, ex2]) ls (lv_sub hl [0, 2, 3, 4] rfl)
        · have c52 := bI_t c52
          refine lv_iload_n hx hb dX4_backTonight_55 rfl (lv_at hl 2 rfl) ?_
          refine lv_aload_n hx hb dX4_backTonight_56 rfl (lv_at hl 3 rfl) ?_
          refine lv_iload_n hx hb dX4_backTonight_57 rfl (lv_at hl 1 rfl) ?_
          refine lv_iload hx hb dX4_backTonight_58 (lv_at hl 0 rfl) ?_
          refine m_cV 2 [.int (nI i), .int (nI u9)] [.int x2] hx hb hml hown hts hK (c_dueFor l E A g M σ hv hw hp i (by omega) (nI u9)) gX4_backTonight_X4_dueFor rfl rfl rfl (by decide +kernel) rfl ⟨Nat.le_of_ble_eq_true rfl, Nat.le_of_ble_eq_true rfl⟩ hM (CW.x hw) rfl rfl hM hl.1 (Nat.le_of_ble_eq_true rfl) ⟨Nat.le_of_ble_eq_true rfl, Nat.le_of_ble_eq_true rfl⟩ rfl dX4_backTonight_60 ?_
          refine lv_iconst (v := 2) hx hb dX4_backTonight_63 (by decide) ?_
          refine lv_idiv hx hb dX4_backTonight_64 (by decide) ?_
          refine lv_iadd hx hb dX4_backTonight_65 ?_
          refine lv_istore_n (lv' := [(2, .int (x2 + ((due σ i (nI u9)) / 2))), (4, .int (nI u9)), (3, .int (nI i)), (0, .ref (g 0)), (1, .int z)]) hx hb dX4_backTonight_66 rfl hl (by decide) rfl (fun ls hl => ?_)
          refine lv_iinc (v := nI (i + 1)) (lv' := [(3, .int (nI (i + 1))), (2, .int (x2 + ((due σ i (nI u9)) / 2))), (4, .int (nI u9)), (0, .ref (g 0)), (1, .int z)]) hx hb dX4_backTonight_67 hl (k := 2) rfl (m_inc _) (by decide) rfl (fun ls hl => ?_)
          refine lv_goto (tgt := 4) hx hb dX4_backTonight_70 (by decide) ?_
          exact ih4 (i + 1) (by omega) _ (by rw [bkA_y (by omega) hw9 c52, ex2]) ls (lv_sub hl [0, 1, 3, 4] rfl)
  exact lp4 (kR σ) 0 (by omega) _ (rfl) ls (lv_sub hl [0, 1, 2, 3] rfl)
theorem in_X4_best_X1 : ∀ w ∈ u_ws RX1 TX1 7, w ∈ wsX4_best := by decide +kernel
theorem in_X4_best_X2 : ∀ w ∈ u_ws RX2 TX2 6, w ∈ wsX4_best := by decide +kernel
theorem in_X4_best_X4 : ∀ w ∈ u_ws RX4 TX4 8, w ∈ wsX4_best := by decide +kernel
set_option maxHeartbeats 4000000 in
set_option maxRecDepth 100000 in
theorem c_best (l : Launch) (E : gE) (A : Nat → Prop) (g : Nat → Nat) (M : gM) (σ : Sg) (hv : VS σ) (hw : CW E g M σ) (hp : PW E M σ) (u : Nat) (hu : u < kU σ) : Met l yX4_best wsX4_best ({ frames := 5, cells := 0, slots := 0, locals := 114 } : Room) (Pm E [.ref (g 0), .int (nI u)] (mP E A g M)) (k2_QcV (.int ((besA σ u (kR σ)).1))) 0 0 (fun _ => False) := by
  refine m_entry (by decide) rfl (Nat.le_of_ble_eq_true rfl) ?_
  intro p e s m args below meth c hx hb hr hml hts hown hlocks hin hM hK ls hl
  have hl : lv_has ls 7 [(0, .ref (g 0)), (1, .int (nI u))] := hl
  have hown : s.vm.findClass RX4 = some m.cls := hown
  obtain ⟨⟨hR9, hG9, hU9, hD9⟩, -⟩ := id hv
  obtain ⟨mc1, el1, h1, -⟩ := CW.LR hw
  obtain ⟨mc2, el2, h2, -⟩ := CW.LG hw
  obtain ⟨mc3, el3, h3, -⟩ := CW.LU hw
  refine lv_aload_n hx hb dX4_best_0 rfl (lv_at hl 0 rfl) ?_
  refine lv_iload_n hx hb dX4_best_1 rfl (lv_at hl 1 rfl) ?_
  refine m_cV 1 [.int (nI u)] [] hx hb hml hown hts hK (c_isGuestY l E A g M σ hv hw u (by omega)) gX4_best_X4_isGuest rfl rfl rfl (by decide +kernel) rfl ⟨Nat.le_of_ble_eq_true rfl, Nat.le_of_ble_eq_true rfl⟩ hM (CW.x hw) rfl rfl hM hl.1 (Nat.le_of_ble_eq_true rfl) ⟨Nat.le_of_ble_eq_true rfl, Nat.le_of_ble_eq_true rfl⟩ rfl dX4_best_2 ?_
  refine lv_if_ne (tgt := 18) hx hb dX4_best_5 (by decide) (fun c9 => ?_) (fun c9 => absurd c9 (by decide))
  refine lv_aload_n hx hb dX4_best_18 rfl (lv_at hl 0 rfl) ?_
  refine m_get hx hb hts in_X4_best_X4 hown hK hM (CW.x hw) rfl 2 (by decide) (by decide +kernel) rfl dX4_best_19 ?_
  refine lv_iload_n hx hb dX4_best_22 rfl (lv_at hl 1 rfl) ?_
  refine m_cV 1 [.int (nI u)] [] hx hb hml hown hts hK (c_get l E A g M (CW.LU hw) (by omega) u (by omega)) gX4_best_Jx4a65c_get_915e3 rfl rfl rfl (by decide +kernel) rfl ⟨Nat.le_of_ble_eq_true rfl, Nat.le_of_ble_eq_true rfl⟩ hM h3 rfl rfl hM hl.1 (Nat.le_of_ble_eq_true rfl) ⟨Nat.le_of_ble_eq_true rfl, Nat.le_of_ble_eq_true rfl⟩ rfl dX4_best_23 ?_
  refine m_cast (ci := 2) hx hb hts hown (by decide +kernel) hK hM (CW.guest hw (i := u) (by omega)) rfl dX4_best_26 ?_
  refine lv_astore_n (lv' := [(2, .ref (g (400 + u))), (0, .ref (g 0)), (1, .int (nI u))]) hx hb dX4_best_29 rfl hl (by decide) rfl (fun ls hl => ?_)
  refine lv_iconst (v := (-1)) hx hb dX4_best_30 (by decide) ?_
  refine lv_istore_n (lv' := [(3, .int (-1)), (2, .ref (g (400 + u))), (0, .ref (g 0)), (1, .int (nI u))]) hx hb dX4_best_31 rfl hl (by decide) rfl (fun ls hl => ?_)
  refine lv_iconst (v := (-1)) hx hb dX4_best_32 (by decide) ?_
  refine lv_istore (lv' := [(4, .int (-1)), (3, .int (-1)), (2, .ref (g (400 + u))), (0, .ref (g 0)), (1, .int (nI u))]) hx hb dX4_best_33 hl (by decide) rfl (fun ls hl => ?_)
  refine lv_iconst (v := 0) hx hb dX4_best_35 (by decide) ?_
  refine lv_istore (lv' := [(5, .int 0), (4, .int (-1)), (3, .int (-1)), (2, .ref (g (400 + u))), (0, .ref (g 0)), (1, .int (nI u))]) hx hb dX4_best_36 hl (by decide) rfl (fun ls hl => ?_)
  have lp38 : ∀ (n38 i : Nat), n38 + i = kR σ → ∀ x3 : Int32, x3 = (besA σ u i).1 → ∀ x4 : Int32, x4 = (besA σ u i).2 → ∀ ls : Array Slot, lv_has ls 7 [(5, .int (nI i)), (3, .int x3), (4, .int x4), (2, .ref (g (400 + u))), (0, .ref (g 0)), (1, .int (nI u))] → W p l e ({ frames := 5, cells := 0, slots := 0, locals := 114 } : Room) s m args below meth c s.heap [] 0 0 (MQ below (k2_QcV (.int ((besA σ u (kR σ)).1))) args s 0 0 (fun _ => False)) (F0 m 38 ls []) := by
    intro n38
    induction n38 with
    | zero =>
      intro i hi38 x3 ex3 x4 ex4 ls hl
      obtain rfl : kR σ = i := by omega
      refine lv_iload hx hb dX4_best_38 (lv_at hl 0 rfl) ?_
      refine lv_aload_n hx hb dX4_best_40 rfl (lv_at hl 4 rfl) ?_
      refine m_get hx hb hts in_X4_best_X4 hown hK hM (CW.x hw) rfl 0 (by decide) (by decide +kernel) rfl dX4_best_41 ?_
      refine m_cV 0 [] [.int (nI (kR σ))] hx hb hml hown hts hK (c_size l E A g M (CW.LR hw)) gX4_best_Jx4a65c_size_8abf5 rfl rfl rfl (by decide +kernel) rfl ⟨Nat.le_of_ble_eq_true rfl, Nat.le_of_ble_eq_true rfl⟩ hM h1 rfl rfl hM hl.1 (Nat.le_of_ble_eq_true rfl) ⟨Nat.le_of_ble_eq_true rfl, Nat.le_of_ble_eq_true rfl⟩ rfl dX4_best_44 ?_
      refine lv_icmp_ge (tgt := 128) hx hb dX4_best_47 (by decide) (fun c47 => ?_) (fun c9 => absurd (Int32.le_refl _) c9)
      refine lv_iload_n hx hb dX4_best_128 rfl (lv_at hl 1 rfl) ?_
      exact r_i hx hb hr hlocks dX4_best_129 (by first | rfl | assumption)
    | succ n38 ih38 =>
      intro i hi38 x3 ex3 x4 ex4 ls hl
      have hlt38 : i < kR σ := by omega
      refine lv_iload hx hb dX4_best_38 (lv_at hl 0 rfl) ?_
      refine lv_aload_n hx hb dX4_best_40 rfl (lv_at hl 4 rfl) ?_
      refine m_get hx hb hts in_X4_best_X4 hown hK hM (CW.x hw) rfl 0 (by decide) (by decide +kernel) rfl dX4_best_41 ?_
      refine m_cV 0 [] [.int (nI i)] hx hb hml hown hts hK (c_size l E A g M (CW.LR hw)) gX4_best_Jx4a65c_size_8abf5 rfl rfl rfl (by decide +kernel) rfl ⟨Nat.le_of_ble_eq_true rfl, Nat.le_of_ble_eq_true rfl⟩ hM h1 rfl rfl hM hl.1 (Nat.le_of_ble_eq_true rfl) ⟨Nat.le_of_ble_eq_true rfl, Nat.le_of_ble_eq_true rfl⟩ rfl dX4_best_44 ?_
      refine lv_icmp_ge (tgt := 128) hx hb dX4_best_47 (by decide) (fun c9 => absurd c9 (nI_ge hlt38 (by omega))) (fun c47 => ?_)
      refine lv_aload_n hx hb dX4_best_50 rfl (lv_at hl 4 rfl) ?_
      refine m_get hx hb hts in_X4_best_X4 hown hK hM (CW.x hw) rfl 0 (by decide) (by decide +kernel) rfl dX4_best_51 ?_
      refine lv_iload hx hb dX4_best_54 (lv_at hl 0 rfl) ?_
      refine m_cV 1 [.int (nI i)] [] hx hb hml hown hts hK (c_get l E A g M (CW.LR hw) (by omega) i (by omega)) gX4_best_Jx4a65c_get_915e3 rfl rfl rfl (by decide +kernel) rfl ⟨Nat.le_of_ble_eq_true rfl, Nat.le_of_ble_eq_true rfl⟩ hM h1 rfl rfl hM hl.1 (Nat.le_of_ble_eq_true rfl) ⟨Nat.le_of_ble_eq_true rfl, Nat.le_of_ble_eq_true rfl⟩ rfl dX4_best_56 ?_
      refine m_cast (ci := 3) hx hb hts hown (by decide +kernel) hK hM (CW.room hw (i := i) (by omega)) rfl dX4_best_59 ?_
      refine lv_astore (lv' := [(6, .ref (g (100 + i))), (5, .int (nI i)), (3, .int x3), (4, .int x4), (2, .ref (g (400 + u))), (0, .ref (g 0)), (1, .int (nI u))]) hx hb dX4_best_62 hl (by decide) rfl (fun ls hl => ?_)
      refine lv_aload hx hb dX4_best_64 (lv_at hl 0 rfl) ?_
      refine m_get hx hb hts in_X4_best_X2 hown hK hM (CW.room hw (i := i) (by omega)) rfl 2 (by decide) (by decide +kernel) rfl dX4_best_66 ?_
      refine lv_iload hx hb dX4_best_69 (lv_at hl 3 rfl) ?_
      refine lv_icmp_le (tgt := 122) hx hb dX4_best_71 (by decide) (fun c71 => ?_) (fun c71 => ?_)
      · refine lv_iinc (v := nI (i + 1)) (lv' := [(5, .int (nI (i + 1))), (6, .ref (g (100 + i))), (3, .int x3), (4, .int x4), (2, .ref (g (400 + u))), (0, .ref (g 0)), (1, .int (nI u))]) hx hb dX4_best_122 hl (k := 1) rfl (m_inc _) (by decide) rfl (fun ls hl => ?_)
        refine lv_goto (tgt := 38) hx hb dX4_best_125 (by decide) ?_
        exact ih38 (i + 1) (by omega) _ (by simp only [besA, c47, c71, ← ex3, ← ex4, if_true, if_false, true_and, and_true, false_and, and_false, not_true_eq_false, not_false_eq_true, reduceCtorEq, eq_self_iff_true, and_self, Bool.false_eq_true, Bool.not_eq_true]) _ (by simp only [besA, c47, c71, ← ex3, ← ex4, if_true, if_false, true_and, and_true, false_and, and_false, not_true_eq_false, not_false_eq_true, reduceCtorEq, eq_self_iff_true, and_self, Bool.false_eq_true, Bool.not_eq_true]) ls (lv_sub hl [0, 2, 3, 4, 5, 6] rfl)
      · refine lv_aload hx hb dX4_best_74 (lv_at hl 0 rfl) ?_
        refine m_get hx hb hts in_X4_best_X2 hown hK hM (CW.room hw (i := i) (by omega)) rfl 0 (by decide) (by decide +kernel) rfl dX4_best_76 ?_
        refine lv_aload_n hx hb dX4_best_79 rfl (lv_at hl 4 rfl) ?_
        refine m_get hx hb hts in_X4_best_X1 hown hK hM (CW.guest hw (i := u) (by omega)) rfl 0 (by decide) (by decide +kernel) rfl dX4_best_80 ?_
        refine lv_icmp_lt (tgt := 122) hx hb dX4_best_83 (by decide) (fun c83 => ?_) (fun c83 => ?_)
        · refine lv_iinc (v := nI (i + 1)) (lv' := [(5, .int (nI (i + 1))), (6, .ref (g (100 + i))), (3, .int x3), (4, .int x4), (2, .ref (g (400 + u))), (0, .ref (g 0)), (1, .int (nI u))]) hx hb dX4_best_122 hl (k := 1) rfl (m_inc _) (by decide) rfl (fun ls hl => ?_)
          refine lv_goto (tgt := 38) hx hb dX4_best_125 (by decide) ?_
          exact ih38 (i + 1) (by omega) _ (by simp only [besA, c47, c71, c83, ← ex3, ← ex4, if_true, if_false, true_and, and_true, false_and, and_false, not_true_eq_false, not_false_eq_true, reduceCtorEq, eq_self_iff_true, and_self, Bool.false_eq_true, Bool.not_eq_true]) _ (by simp only [besA, c47, c71, c83, ← ex3, ← ex4, if_true, if_false, true_and, and_true, false_and, and_false, not_true_eq_false, not_false_eq_true, reduceCtorEq, eq_self_iff_true, and_self, Bool.false_eq_true, Bool.not_eq_true]) ls (lv_sub hl [0, 2, 3, 4, 5, 6] rfl)
        · refine lv_aload hx hb dX4_best_86 (lv_at hl 0 rfl) ?_
          refine m_get hx hb hts in_X4_best_X2 hown hK hM (CW.room hw (i := i) (by omega)) rfl 1 (by decide) (by decide +kernel) rfl dX4_best_88 ?_
          refine lv_aload_n hx hb dX4_best_91 rfl (lv_at hl 4 rfl) ?_
          refine m_get hx hb hts in_X4_best_X1 hown hK hM (CW.guest hw (i := u) (by omega)) rfl 1 (by decide) (by decide +kernel) rfl dX4_best_92 ?_
          refine lv_icmp_gt (tgt := 122) hx hb dX4_best_95 (by decide) (fun c95 => ?_) (fun c95 => ?_)
          · refine lv_iinc (v := nI (i + 1)) (lv' := [(5, .int (nI (i + 1))), (6, .ref (g (100 + i))), (3, .int x3), (4, .int x4), (2, .ref (g (400 + u))), (0, .ref (g 0)), (1, .int (nI u))]) hx hb dX4_best_122 hl (k := 1) rfl (m_inc _) (by decide) rfl (fun ls hl => ?_)
            refine lv_goto (tgt := 38) hx hb dX4_best_125 (by decide) ?_
            exact ih38 (i + 1) (by omega) _ (by simp only [besA, c47, c71, c83, c95, ← ex3, ← ex4, if_true, if_false, true_and, and_true, false_and, and_false, not_true_eq_false, not_false_eq_true, reduceCtorEq, eq_self_iff_true, and_self, Bool.false_eq_true, Bool.not_eq_true]) _ (by simp only [besA, c47, c71, c83, c95, ← ex3, ← ex4, if_true, if_false, true_and, and_true, false_and, and_false, not_true_eq_false, not_false_eq_true, reduceCtorEq, eq_self_iff_true, and_self, Bool.false_eq_true, Bool.not_eq_true]) ls (lv_sub hl [0, 2, 3, 4, 5, 6] rfl)
          · refine lv_aload_n hx hb dX4_best_98 rfl (lv_at hl 4 rfl) ?_
            refine lv_aload_n hx hb dX4_best_99 rfl (lv_at hl 5 rfl) ?_
            refine lv_iload hx hb dX4_best_100 (lv_at hl 1 rfl) ?_
            refine lv_iconst (v := (-1)) hx hb dX4_best_102 (by decide) ?_
            refine m_cV 2 [.int (nI i), .int (-1)] [.ref (g (400 + u))] hx hb hml hown hts hK (c_hON l E A g M σ hv hw hp (nI i) (-1)) gX4_best_X4_hauntingOfNight rfl rfl rfl (by decide +kernel) rfl ⟨Nat.le_of_ble_eq_true rfl, Nat.le_of_ble_eq_true rfl⟩ hM (CW.x hw) rfl rfl hM hl.1 (Nat.le_of_ble_eq_true rfl) ⟨Nat.le_of_ble_eq_true rfl, Nat.le_of_ble_eq_true rfl⟩ rfl dX4_best_103 ?_
            refine m_cV 1 [.int (hON σ (nI i) (-1) 12)] [] hx hb hml hown hts hK (c_upset l E A g M (400 + u) (sGu σ u 1) (sGu σ u 0) (sGu σ u 2) (sGu σ u 3) (sGu σ u 4) (sGu σ u 5) (sGu σ u 6) (CW.guest hw (by omega)) (hON σ (nI i) (-1) 12)) gX4_best_X1_isUpsetBy rfl rfl rfl (by decide +kernel) rfl ⟨Nat.le_of_ble_eq_true rfl, Nat.le_of_ble_eq_true rfl⟩ hM (CW.guest hw (i := u) (by omega)) rfl rfl hM hl.1 (Nat.le_of_ble_eq_true rfl) ⟨Nat.le_of_ble_eq_true rfl, Nat.le_of_ble_eq_true rfl⟩ rfl dX4_best_106 ?_
            refine lv_if_ne (tgt := 122) hx hb dX4_best_109 (by decide) (fun c109 => ?_) (fun c109 => ?_)
            · have c109 := bI_t c109
              refine lv_iinc (v := nI (i + 1)) (lv' := [(5, .int (nI (i + 1))), (6, .ref (g (100 + i))), (3, .int x3), (4, .int x4), (2, .ref (g (400 + u))), (0, .ref (g 0)), (1, .int (nI u))]) hx hb dX4_best_122 hl (k := 1) rfl (m_inc _) (by decide) rfl (fun ls hl => ?_)
              refine lv_goto (tgt := 38) hx hb dX4_best_125 (by decide) ?_
              exact ih38 (i + 1) (by omega) _ (by simp only [besA, c47, c71, c83, c95, c109, ← ex3, ← ex4, if_true, if_false, true_and, and_true, false_and, and_false, not_true_eq_false, not_false_eq_true, reduceCtorEq, eq_self_iff_true, and_self, Bool.false_eq_true, Bool.not_eq_true]) _ (by simp only [besA, c47, c71, c83, c95, c109, ← ex3, ← ex4, if_true, if_false, true_and, and_true, false_and, and_false, not_true_eq_false, not_false_eq_true, reduceCtorEq, eq_self_iff_true, and_self, Bool.false_eq_true, Bool.not_eq_true]) ls (lv_sub hl [0, 2, 3, 4, 5, 6] rfl)
            · have c109 := bI_f c109
              refine lv_iload hx hb dX4_best_112 (lv_at hl 1 rfl) ?_
              refine lv_istore_n (lv' := [(3, .int (nI i)), (6, .ref (g (100 + i))), (5, .int (nI i)), (4, .int x4), (2, .ref (g (400 + u))), (0, .ref (g 0)), (1, .int (nI u))]) hx hb dX4_best_114 rfl hl (by decide) rfl (fun ls hl => ?_)
              refine lv_aload hx hb dX4_best_115 (lv_at hl 1 rfl) ?_
              refine m_get hx hb hts in_X4_best_X2 hown hK hM (CW.room hw (i := i) (by omega)) rfl 2 (by decide) (by decide +kernel) rfl dX4_best_117 ?_
              refine lv_istore (lv' := [(4, .int (sRm σ i 1)), (3, .int (nI i)), (6, .ref (g (100 + i))), (5, .int (nI i)), (2, .ref (g (400 + u))), (0, .ref (g 0)), (1, .int (nI u))]) hx hb dX4_best_120 hl (by decide) rfl (fun ls hl => ?_)
              refine lv_iinc (v := nI (i + 1)) (lv' := [(5, .int (nI (i + 1))), (4, .int (sRm σ i 1)), (3, .int (nI i)), (6, .ref (g (100 + i))), (2, .ref (g (400 + u))), (0, .ref (g 0)), (1, .int (nI u))]) hx hb dX4_best_122 hl (k := 3) rfl (m_inc _) (by decide) rfl (fun ls hl => ?_)
              refine lv_goto (tgt := 38) hx hb dX4_best_125 (by decide) ?_
              exact ih38 (i + 1) (by omega) _ (by simp only [besA, c47, c71, c83, c95, c109, ← ex3, ← ex4, if_true, if_false, true_and, and_true, false_and, and_false, not_true_eq_false, not_false_eq_true, reduceCtorEq, eq_self_iff_true, and_self, Bool.false_eq_true, Bool.not_eq_true]) _ (by simp only [besA, c47, c71, c83, c95, c109, ← ex3, ← ex4, if_true, if_false, true_and, and_true, false_and, and_false, not_true_eq_false, not_false_eq_true, reduceCtorEq, eq_self_iff_true, and_self, Bool.false_eq_true, Bool.not_eq_true]) ls (lv_sub hl [0, 2, 1, 4, 5, 6] rfl)
  exact lp38 (kR σ) 0 (by omega) _ (rfl) _ (rfl) ls (lv_sub hl [0, 2, 1, 3, 4, 5] rfl)
set_option maxHeartbeats 4000000 in
set_option maxRecDepth 100000 in
theorem c_scares (l : Launch) (E : gE) (A : Nat → Prop) (g : Nat → Nat) (M : gM) (σ : Sg) (hv : VS σ) (hw : CW E g M σ) (hp : PW E M σ) (i : Nat) (hi : i < kG σ) : Met l yX4_scares wsX4_scares ({ frames := 6, cells := 0, slots := 0, locals := 138 } : Room) (Pm E [.ref (g 0), .int (nI i)] (mP E A g M)) (k2_QcV (.int (bkA σ (-1) (kR σ) - bkA σ (nI i) (kR σ)))) 0 0 (fun _ => False) := by
  refine m_entry (by decide) rfl (Nat.le_of_ble_eq_true rfl) ?_
  intro p e s m args below meth c hx hb hr hml hts hown hlocks hin hM hK ls hl
  have hl : lv_has ls 2 [(0, .ref (g 0)), (1, .int (nI i))] := hl
  have hown : s.vm.findClass RX4 = some m.cls := hown
  obtain ⟨⟨hR9, hG9, hU9, hD9⟩, -⟩ := id hv
  obtain ⟨mc1, el1, h1, -⟩ := CW.LR hw
  obtain ⟨mc2, el2, h2, -⟩ := CW.LG hw
  obtain ⟨mc3, el3, h3, -⟩ := CW.LU hw
  refine lv_aload_n hx hb dX4_scares_0 rfl (lv_at hl 0 rfl) ?_
  refine lv_iload_n hx hb dX4_scares_1 rfl (lv_at hl 1 rfl) ?_
  refine m_cV 1 [.int (nI i)] [] hx hb hml hown hts hK (c_isGhostY l E A g M σ hv hw i (by omega)) gX4_scares_X4_isGhost rfl rfl rfl (by decide +kernel) rfl ⟨Nat.le_of_ble_eq_true rfl, Nat.le_of_ble_eq_true rfl⟩ hM (CW.x hw) rfl rfl hM hl.1 (Nat.le_of_ble_eq_true rfl) ⟨Nat.le_of_ble_eq_true rfl, Nat.le_of_ble_eq_true rfl⟩ rfl dX4_scares_2 ?_
  refine lv_if_ne (tgt := 18) hx hb dX4_scares_5 (by decide) (fun c9 => ?_) (fun c9 => absurd c9 (by decide))
  refine lv_aload_n hx hb dX4_scares_18 rfl (lv_at hl 0 rfl) ?_
  refine lv_iconst (v := (-1)) hx hb dX4_scares_19 (by decide) ?_
  refine m_cV 1 [.int (-1)] [] hx hb hml hown hts hK (c_backTonight l E A g M σ hv hw hp (-1)) gX4_scares_X4_backTonight rfl rfl rfl (by decide +kernel) rfl ⟨Nat.le_of_ble_eq_true rfl, Nat.le_of_ble_eq_true rfl⟩ hM (CW.x hw) rfl rfl hM hl.1 (Nat.le_of_ble_eq_true rfl) ⟨Nat.le_of_ble_eq_true rfl, Nat.le_of_ble_eq_true rfl⟩ rfl dX4_scares_20 ?_
  refine lv_aload_n hx hb dX4_scares_23 rfl (lv_at hl 0 rfl) ?_
  refine lv_iload_n hx hb dX4_scares_24 rfl (lv_at hl 1 rfl) ?_
  refine m_cV 1 [.int (nI i)] [.int (bkA σ (-1) (kR σ))] hx hb hml hown hts hK (c_backTonight l E A g M σ hv hw hp (nI i)) gX4_scares_X4_backTonight rfl rfl rfl (by decide +kernel) rfl ⟨Nat.le_of_ble_eq_true rfl, Nat.le_of_ble_eq_true rfl⟩ hM (CW.x hw) rfl rfl hM hl.1 (Nat.le_of_ble_eq_true rfl) ⟨Nat.le_of_ble_eq_true rfl, Nat.le_of_ble_eq_true rfl⟩ rfl dX4_scares_25 ?_
  refine lv_isub hx hb dX4_scares_28 ?_
  exact r_i hx hb hr hlocks dX4_scares_29 (by first | rfl | assumption)
def dearB (σ : Sg) (a b : Nat) : Bool := decide (sGu σ b 4 < sGu σ a 4 ∨ sGu σ a 4 = sGu σ b 4 ∧ nI a < nI b)
def oI : Option Nat → Int32
  | none => -1
  | some j => nI j
def ndS (σ : Sg) (fol : Nat → Bool) (i : Nat) (o : Option Nat) : Option Nat :=
  if sGu σ i 3 = -1 then o else if fol i = true then (match o with
    | none => some i
    | some j => if dearB σ i j = true then some i else o) else o
def ndA (σ : Sg) (fol : Nat → Bool) : Nat → Option Nat
  | 0 => none
  | i + 1 => ndS σ fol i (ndA σ fol i)
theorem ndA_lt (σ : Sg) (fol : Nat → Bool) : ∀ n j, ndA σ fol n = some j → j < n
  | 0, j, h => by cases h
  | n + 1, j, h => by
    have ih := ndA_lt σ fol n
    rw [ndA] at h
    unfold ndS at h
    split at h
    · exact Nat.lt_succ_of_lt (ih j h)
    · split at h
      · split at h
        · cases h; exact Nat.lt_succ_self _
        · split at h
          · cases h; exact Nat.lt_succ_self _
          · exact Nat.lt_succ_of_lt (ih j h)
      · exact Nat.lt_succ_of_lt (ih j h)
theorem oI_some {o : Option Nat} {x : Int32} (e : x = oI o) (h : ¬ x = -1) : ∃ j, o = some j ∧ x = nI j := by
  cases o with
  | none => exact absurd e h
  | some j => exact ⟨j, rfl, e⟩
theorem oI_none {o : Option Nat} {x : Int32} (e : x = oI o) (h : x = -1) (hb : ∀ j, o = some j → j < 2 ^ 31) : o = none := by
  cases o with
  | none => rfl
  | some j => exact absurd (e.symm.trans h) (nI_ne1 (hb j rfl))
theorem in_X4_isDearer_X1 : ∀ w ∈ u_ws RX1 TX1 7, w ∈ wsX4_isDearer := by decide +kernel
theorem in_X4_isDearer_X4 : ∀ w ∈ u_ws RX4 TX4 8, w ∈ wsX4_isDearer := by decide +kernel
set_option maxHeartbeats 4000000 in
set_option maxRecDepth 100000 in
theorem c_isDearer (l : Launch) (E : gE) (A : Nat → Prop) (g : Nat → Nat) (M : gM) (σ : Sg) (hv : VS σ) (hw : CW E g M σ) (hp : PW E M σ) (a b : Nat) (ha : a < kU σ) (hb9 : b < kU σ) : Met l yX4_isDearer wsX4_isDearer ({ frames := 3, cells := 0, slots := 0, locals := 64 } : Room) (Pm E [.ref (g 0), .int (nI a), .int (nI b)] (mP E A g M)) (k2_QcV (.int (bI (dearB σ a b)))) 0 0 (fun _ => False) := by
  refine m_entry (by decide) rfl (Nat.le_of_ble_eq_true rfl) ?_
  intro p e s m args below meth c hx hb hr hml hts hown hlocks hin hM hK ls hl
  have hl : lv_has ls 5 [(0, .ref (g 0)), (1, .int (nI a)), (2, .int (nI b))] := hl
  have hown : s.vm.findClass RX4 = some m.cls := hown
  obtain ⟨⟨hR9, hG9, hU9, hD9⟩, -⟩ := id hv
  obtain ⟨mc1, el1, h1, -⟩ := CW.LR hw
  obtain ⟨mc2, el2, h2, -⟩ := CW.LG hw
  obtain ⟨mc3, el3, h3, -⟩ := CW.LU hw
  refine lv_aload_n hx hb dX4_isDearer_0 rfl (lv_at hl 0 rfl) ?_
  refine lv_iload_n hx hb dX4_isDearer_1 rfl (lv_at hl 1 rfl) ?_
  refine m_cV 1 [.int (nI a)] [] hx hb hml hown hts hK (c_isGuestY l E A g M σ hv hw a (by omega)) gX4_isDearer_X4_isGuest rfl rfl rfl (by decide +kernel) rfl ⟨Nat.le_of_ble_eq_true rfl, Nat.le_of_ble_eq_true rfl⟩ hM (CW.x hw) rfl rfl hM hl.1 (Nat.le_of_ble_eq_true rfl) ⟨Nat.le_of_ble_eq_true rfl, Nat.le_of_ble_eq_true rfl⟩ rfl dX4_isDearer_2 ?_
  refine lv_if_eq (tgt := 16) hx hb dX4_isDearer_5 (by decide) (fun c9 => absurd c9 (by decide)) (fun c9 => ?_)
  refine lv_aload_n hx hb dX4_isDearer_8 rfl (lv_at hl 0 rfl) ?_
  refine lv_iload_n hx hb dX4_isDearer_9 rfl (lv_at hl 2 rfl) ?_
  refine m_cV 1 [.int (nI b)] [] hx hb hml hown hts hK (c_isGuestY l E A g M σ hv hw b (by omega)) gX4_isDearer_X4_isGuest rfl rfl rfl (by decide +kernel) rfl ⟨Nat.le_of_ble_eq_true rfl, Nat.le_of_ble_eq_true rfl⟩ hM (CW.x hw) rfl rfl hM hl.1 (Nat.le_of_ble_eq_true rfl) ⟨Nat.le_of_ble_eq_true rfl, Nat.le_of_ble_eq_true rfl⟩ rfl dX4_isDearer_10 ?_
  refine lv_if_ne (tgt := 18) hx hb dX4_isDearer_13 (by decide) (fun c9 => ?_) (fun c9 => absurd c9 (by decide))
  refine lv_aload_n hx hb dX4_isDearer_18 rfl (lv_at hl 0 rfl) ?_
  refine m_get hx hb hts in_X4_isDearer_X4 hown hK hM (CW.x hw) rfl 2 (by decide) (by decide +kernel) rfl dX4_isDearer_19 ?_
  refine lv_iload_n hx hb dX4_isDearer_22 rfl (lv_at hl 1 rfl) ?_
  refine m_cV 1 [.int (nI a)] [] hx hb hml hown hts hK (c_get l E A g M (CW.LU hw) (by omega) a (by omega)) gX4_isDearer_Jx4a65c_get_915e3 rfl rfl rfl (by decide +kernel) rfl ⟨Nat.le_of_ble_eq_true rfl, Nat.le_of_ble_eq_true rfl⟩ hM h3 rfl rfl hM hl.1 (Nat.le_of_ble_eq_true rfl) ⟨Nat.le_of_ble_eq_true rfl, Nat.le_of_ble_eq_true rfl⟩ rfl dX4_isDearer_23 ?_
  refine m_cast (ci := 2) hx hb hts hown (by decide +kernel) hK hM (CW.guest hw (i := a) (by omega)) rfl dX4_isDearer_26 ?_
  refine m_get hx hb hts in_X4_isDearer_X1 hown hK hM (CW.guest hw (i := a) (by omega)) rfl 4 (by decide) (by decide +kernel) rfl dX4_isDearer_29 ?_
  refine lv_istore_n (lv' := [(3, .int (sGu σ a 4)), (0, .ref (g 0)), (1, .int (nI a)), (2, .int (nI b))]) hx hb dX4_isDearer_32 rfl hl (by decide) rfl (fun ls hl => ?_)
  refine lv_aload_n hx hb dX4_isDearer_33 rfl (lv_at hl 1 rfl) ?_
  refine m_get hx hb hts in_X4_isDearer_X4 hown hK hM (CW.x hw) rfl 2 (by decide) (by decide +kernel) rfl dX4_isDearer_34 ?_
  refine lv_iload_n hx hb dX4_isDearer_37 rfl (lv_at hl 3 rfl) ?_
  refine m_cV 1 [.int (nI b)] [] hx hb hml hown hts hK (c_get l E A g M (CW.LU hw) (by omega) b (by omega)) gX4_isDearer_Jx4a65c_get_915e3 rfl rfl rfl (by decide +kernel) rfl ⟨Nat.le_of_ble_eq_true rfl, Nat.le_of_ble_eq_true rfl⟩ hM h3 rfl rfl hM hl.1 (Nat.le_of_ble_eq_true rfl) ⟨Nat.le_of_ble_eq_true rfl, Nat.le_of_ble_eq_true rfl⟩ rfl dX4_isDearer_38 ?_
  refine m_cast (ci := 2) hx hb hts hown (by decide +kernel) hK hM (CW.guest hw (i := b) (by omega)) rfl dX4_isDearer_41 ?_
  refine m_get hx hb hts in_X4_isDearer_X1 hown hK hM (CW.guest hw (i := b) (by omega)) rfl 4 (by decide) (by decide +kernel) rfl dX4_isDearer_44 ?_
  refine lv_istore (lv' := [(4, .int (sGu σ b 4)), (3, .int (sGu σ a 4)), (0, .ref (g 0)), (1, .int (nI a)), (2, .int (nI b))]) hx hb dX4_isDearer_47 hl (by decide) rfl (fun ls hl => ?_)
  refine lv_iload_n hx hb dX4_isDearer_49 rfl (lv_at hl 1 rfl) ?_
  refine lv_iload hx hb dX4_isDearer_50 (lv_at hl 0 rfl) ?_
  refine lv_icmp_gt (tgt := 66) hx hb dX4_isDearer_52 (by decide) (fun c52 => ?_) (fun c52 => ?_)
  · refine lv_iconst (v := 1) hx hb dX4_isDearer_66 (by decide) ?_
    refine lv_goto (tgt := 71) hx hb dX4_isDearer_67 (by decide) ?_
    exact r_z hx hb hr hlocks dX4_isDearer_71 (bI_one (decide_eq_true (by first | omega | (simp only [Int32.le_iff_toInt_le, Int32.lt_iff_toInt_lt, ← Int32.toInt_inj] at c52 ⊢; omega))))
  · refine lv_iload_n hx hb dX4_isDearer_55 rfl (lv_at hl 1 rfl) ?_
    refine lv_iload hx hb dX4_isDearer_56 (lv_at hl 0 rfl) ?_
    refine lv_icmp_ne (tgt := 70) hx hb dX4_isDearer_58 (by decide) (fun c58 => ?_) (fun c58 => ?_)
    · refine lv_iconst (v := 0) hx hb dX4_isDearer_70 (by decide) ?_
      exact r_z hx hb hr hlocks dX4_isDearer_71 (bI_zero (decide_eq_false (by first | omega | (simp only [Int32.le_iff_toInt_le, Int32.lt_iff_toInt_lt, ← Int32.toInt_inj] at c52 c58 ⊢; omega))))
    · refine lv_iload_n hx hb dX4_isDearer_61 rfl (lv_at hl 3 rfl) ?_
      refine lv_iload_n hx hb dX4_isDearer_62 rfl (lv_at hl 4 rfl) ?_
      refine lv_icmp_ge (tgt := 70) hx hb dX4_isDearer_63 (by decide) (fun c63 => ?_) (fun c63 => ?_)
      · refine lv_iconst (v := 0) hx hb dX4_isDearer_70 (by decide) ?_
        exact r_z hx hb hr hlocks dX4_isDearer_71 (bI_zero (decide_eq_false (by first | omega | (simp only [Int32.le_iff_toInt_le, Int32.lt_iff_toInt_lt, ← Int32.toInt_inj] at c52 c58 c63 ⊢; omega))))
      · refine lv_iconst (v := 1) hx hb dX4_isDearer_66 (by decide) ?_
        refine lv_goto (tgt := 71) hx hb dX4_isDearer_67 (by decide) ?_
        exact r_z hx hb hr hlocks dX4_isDearer_71 (bI_one (decide_eq_true (by first | omega | (simp only [Int32.le_iff_toInt_le, Int32.lt_iff_toInt_lt, ← Int32.toInt_inj] at c52 c58 c63 ⊢; omega))))
theorem in_X4_nextDearest_X4 : ∀ w ∈ u_ws RX4 TX4 8, w ∈ wsX4_nextDearest := by decide +kernel
set_option maxHeartbeats 4000000 in
set_option maxRecDepth 100000 in
theorem c_nextD0 (l : Launch) (E : gE) (A : Nat → Prop) (g : Nat → Nat) (M : gM) (σ : Sg) (hv : VS σ) (hw : CW E g M σ) (hp : PW E M σ)  : Met l yX4_nextDearest wsX4_nextDearest ({ frames := 4, cells := 0, slots := 0, locals := 88 } : Room) (Pm E [.ref (g 0), .int (-1)] (mP E A g M)) (k2_QcV (.int (oI (ndA σ (fun _ => true) (kU σ))))) 0 0 (fun _ => False) := by
  refine m_entry (by decide) rfl (Nat.le_of_ble_eq_true rfl) ?_
  intro p e s m args below meth c hx hb hr hml hts hown hlocks hin hM hK ls hl
  have hl : lv_has ls 5 [(0, .ref (g 0)), (1, .int (-1))] := hl
  have hown : s.vm.findClass RX4 = some m.cls := hown
  obtain ⟨⟨hR9, hG9, hU9, hD9⟩, -⟩ := id hv
  obtain ⟨mc1, el1, h1, -⟩ := CW.LR hw
  obtain ⟨mc2, el2, h2, -⟩ := CW.LG hw
  obtain ⟨mc3, el3, h3, -⟩ := CW.LU hw
  refine lv_iconst (v := (-1)) hx hb dX4_nextDearest_0 (by decide) ?_
  refine lv_istore_n (lv' := [(2, .int (-1)), (0, .ref (g 0)), (1, .int (-1))]) hx hb dX4_nextDearest_1 rfl hl (by decide) rfl (fun ls hl => ?_)
  refine lv_iconst (v := 0) hx hb dX4_nextDearest_2 (by decide) ?_
  refine lv_istore_n (lv' := [(3, .int 0), (2, .int (-1)), (0, .ref (g 0)), (1, .int (-1))]) hx hb dX4_nextDearest_3 rfl hl (by decide) rfl (fun ls hl => ?_)
  have lp4 : ∀ (n4 i : Nat), n4 + i = kU σ → ∀ x2 : Int32, x2 = oI (ndA σ (fun _ => true) i) → ∀ ls : Array Slot, lv_has ls 5 [(3, .int (nI i)), (2, .int x2), (0, .ref (g 0)), (1, .int (-1))] → W p l e ({ frames := 4, cells := 0, slots := 0, locals := 88 } : Room) s m args below meth c s.heap [] 0 0 (MQ below (k2_QcV (.int (oI (ndA σ (fun _ => true) (kU σ))))) args s 0 0 (fun _ => False)) (F0 m 4 ls []) := by
    intro n4
    induction n4 with
    | zero =>
      intro i hi4 x2 ex2 ls hl
      obtain rfl : kU σ = i := by omega
      refine lv_iload_n hx hb dX4_nextDearest_4 rfl (lv_at hl 0 rfl) ?_
      refine lv_aload_n hx hb dX4_nextDearest_5 rfl (lv_at hl 2 rfl) ?_
      refine m_get hx hb hts in_X4_nextDearest_X4 hown hK hM (CW.x hw) rfl 2 (by decide) (by decide +kernel) rfl dX4_nextDearest_6 ?_
      refine m_cV 0 [] [.int (nI (kU σ))] hx hb hml hown hts hK (c_size l E A g M (CW.LU hw)) gX4_nextDearest_Jx4a65c_size_8abf5 rfl rfl rfl (by decide +kernel) rfl ⟨Nat.le_of_ble_eq_true rfl, Nat.le_of_ble_eq_true rfl⟩ hM h3 rfl rfl hM hl.1 (Nat.le_of_ble_eq_true rfl) ⟨Nat.le_of_ble_eq_true rfl, Nat.le_of_ble_eq_true rfl⟩ rfl dX4_nextDearest_9 ?_
      refine lv_icmp_ge (tgt := 80) hx hb dX4_nextDearest_12 (by decide) (fun c12 => ?_) (fun c9 => absurd (Int32.le_refl _) c9)
      refine lv_iload_n hx hb dX4_nextDearest_80 rfl (lv_at hl 1 rfl) ?_
      exact r_i hx hb hr hlocks dX4_nextDearest_81 (by first | rfl | assumption)
    | succ n4 ih4 =>
      intro i hi4 x2 ex2 ls hl
      have hlt4 : i < kU σ := by omega
      refine lv_iload_n hx hb dX4_nextDearest_4 rfl (lv_at hl 0 rfl) ?_
      refine lv_aload_n hx hb dX4_nextDearest_5 rfl (lv_at hl 2 rfl) ?_
      refine m_get hx hb hts in_X4_nextDearest_X4 hown hK hM (CW.x hw) rfl 2 (by decide) (by decide +kernel) rfl dX4_nextDearest_6 ?_
      refine m_cV 0 [] [.int (nI i)] hx hb hml hown hts hK (c_size l E A g M (CW.LU hw)) gX4_nextDearest_Jx4a65c_size_8abf5 rfl rfl rfl (by decide +kernel) rfl ⟨Nat.le_of_ble_eq_true rfl, Nat.le_of_ble_eq_true rfl⟩ hM h3 rfl rfl hM hl.1 (Nat.le_of_ble_eq_true rfl) ⟨Nat.le_of_ble_eq_true rfl, Nat.le_of_ble_eq_true rfl⟩ rfl dX4_nextDearest_9 ?_
      refine lv_icmp_ge (tgt := 80) hx hb dX4_nextDearest_12 (by decide) (fun c9 => absurd c9 (nI_ge hlt4 (by omega))) (fun c12 => ?_)
      refine lv_iload_n hx hb dX4_nextDearest_15 rfl (lv_at hl 3 rfl) ?_
      refine lv_iconst (v := (-1)) hx hb dX4_nextDearest_16 (by decide) ?_
      refine lv_icmp_eq (tgt := 29) hx hb dX4_nextDearest_17 (by decide) (fun c9 => ?_) (fun c9 => absurd c9 (by decide))
      refine lv_iconst (v := 1) hx hb dX4_nextDearest_29 (by decide) ?_
      refine lv_goto (tgt := 34) hx hb dX4_nextDearest_30 (by decide) ?_
      refine lv_istore (lv' := [(4, .int 1), (3, .int (nI i)), (2, .int x2), (0, .ref (g 0)), (1, .int (-1))]) hx hb dX4_nextDearest_34 hl (by decide) rfl (fun ls hl => ?_)
      refine lv_aload_n hx hb dX4_nextDearest_36 rfl (lv_at hl 3 rfl) ?_
      refine m_get hx hb hts in_X4_nextDearest_X4 hown hK hM (CW.x hw) rfl 2 (by decide) (by decide +kernel) rfl dX4_nextDearest_37 ?_
      refine lv_iload_n hx hb dX4_nextDearest_40 rfl (lv_at hl 1 rfl) ?_
      refine m_cV 1 [.int (nI i)] [] hx hb hml hown hts hK (c_get l E A g M (CW.LU hw) (by omega) i (by omega)) gX4_nextDearest_Jx4a65c_get_915e3 rfl rfl rfl (by decide +kernel) rfl ⟨Nat.le_of_ble_eq_true rfl, Nat.le_of_ble_eq_true rfl⟩ hM h3 rfl rfl hM hl.1 (Nat.le_of_ble_eq_true rfl) ⟨Nat.le_of_ble_eq_true rfl, Nat.le_of_ble_eq_true rfl⟩ rfl dX4_nextDearest_41 ?_
      refine m_cast (ci := 2) hx hb hts hown (by decide +kernel) hK hM (CW.guest hw (i := i) (by omega)) rfl dX4_nextDearest_44 ?_
      refine m_cV 0 [] [] hx hb hml hown hts hK (c_hasBid l E A g M (400 + i) (sGu σ i 1) (sGu σ i 0) (sGu σ i 2) (sGu σ i 3) (sGu σ i 4) (sGu σ i 5) (sGu σ i 6) (CW.guest hw (by omega))) gX4_nextDearest_X1_hasBid rfl rfl rfl (by decide +kernel) rfl ⟨Nat.le_of_ble_eq_true rfl, Nat.le_of_ble_eq_true rfl⟩ hM (CW.guest hw (i := i) (by omega)) rfl rfl hM hl.1 (Nat.le_of_ble_eq_true rfl) ⟨Nat.le_of_ble_eq_true rfl, Nat.le_of_ble_eq_true rfl⟩ rfl dX4_nextDearest_47 ?_
      refine lv_if_eq (tgt := 74) hx hb dX4_nextDearest_50 (by decide) (fun c50 => ?_) (fun c50 => ?_)
      · have c50 := of_decide_eq_false (bI_f c50)
        have c50 := Classical.not_not.mp c50
        refine lv_iinc (v := nI (i + 1)) (lv' := [(3, .int (nI (i + 1))), (4, .int 1), (2, .int x2), (0, .ref (g 0)), (1, .int (-1))]) hx hb dX4_nextDearest_74 hl (k := 1) rfl (m_inc _) (by decide) rfl (fun ls hl => ?_)
        refine lv_goto (tgt := 4) hx hb dX4_nextDearest_77 (by decide) ?_
        exact ih4 (i + 1) (by omega) _ (by simp only [ndA, ndS, c50, if_true, if_false, true_and, and_true, false_and, and_false, not_true_eq_false, not_false_eq_true, reduceCtorEq, eq_self_iff_true, and_self, Bool.false_eq_true, Bool.not_eq_true] <;> first | rfl | (rw [ex2]; rfl) | exact ex2) ls (lv_sub hl [0, 2, 3, 4] rfl)
      · have c50 := of_decide_eq_true (bI_t c50)
        refine lv_iload hx hb dX4_nextDearest_53 (lv_at hl 0 rfl) ?_
        refine lv_if_eq (tgt := 74) hx hb dX4_nextDearest_55 (by decide) (fun c9 => absurd c9 (by decide)) (fun c9 => ?_)
        refine lv_iload_n hx hb dX4_nextDearest_58 rfl (lv_at hl 2 rfl) ?_
        refine lv_iconst (v := (-1)) hx hb dX4_nextDearest_59 (by decide) ?_
        refine lv_icmp_eq (tgt := 72) hx hb dX4_nextDearest_60 (by decide) (fun c60 => ?_) (fun c60 => ?_)
        · have hn9 := oI_none ex2 c60 (fun j hj => Nat.lt_trans (ndA_lt σ (fun _ => true) _ j hj) (by omega))
          refine lv_iload_n hx hb dX4_nextDearest_72 rfl (lv_at hl 1 rfl) ?_
          refine lv_istore_n (lv' := [(2, .int (nI i)), (4, .int 1), (3, .int (nI i)), (0, .ref (g 0)), (1, .int (-1))]) hx hb dX4_nextDearest_73 rfl hl (by decide) rfl (fun ls hl => ?_)
          refine lv_iinc (v := nI (i + 1)) (lv' := [(3, .int (nI (i + 1))), (2, .int (nI i)), (4, .int 1), (0, .ref (g 0)), (1, .int (-1))]) hx hb dX4_nextDearest_74 hl (k := 2) rfl (m_inc _) (by decide) rfl (fun ls hl => ?_)
          refine lv_goto (tgt := 4) hx hb dX4_nextDearest_77 (by decide) ?_
          exact ih4 (i + 1) (by omega) _ (by simp only [ndA, ndS, c50, hn9, if_true, if_false, true_and, and_true, false_and, and_false, not_true_eq_false, not_false_eq_true, reduceCtorEq, eq_self_iff_true, and_self, Bool.false_eq_true, Bool.not_eq_true] <;> first | rfl | (rw [ex2]; rfl) | exact ex2) ls (lv_sub hl [0, 1, 3, 4] rfl)
        · obtain ⟨j9, hn9, hx9⟩ := oI_some ex2 c60
          have hj9 := ndA_lt σ (fun _ => true) _ j9 hn9
          subst hx9
          refine lv_aload_n hx hb dX4_nextDearest_63 rfl (lv_at hl 3 rfl) ?_
          refine lv_iload_n hx hb dX4_nextDearest_64 rfl (lv_at hl 1 rfl) ?_
          refine lv_iload_n hx hb dX4_nextDearest_65 rfl (lv_at hl 2 rfl) ?_
          refine m_cV 2 [.int (nI i), .int (nI j9)] [] hx hb hml hown hts hK (c_isDearer l E A g M σ hv hw hp i j9 (by omega) (by omega)) gX4_nextDearest_X4_isDearer rfl rfl rfl (by decide +kernel) rfl ⟨Nat.le_of_ble_eq_true rfl, Nat.le_of_ble_eq_true rfl⟩ hM (CW.x hw) rfl rfl hM hl.1 (Nat.le_of_ble_eq_true rfl) ⟨Nat.le_of_ble_eq_true rfl, Nat.le_of_ble_eq_true rfl⟩ rfl dX4_nextDearest_66 ?_
          refine lv_if_eq (tgt := 74) hx hb dX4_nextDearest_69 (by decide) (fun c69 => ?_) (fun c69 => ?_)
          · have c69 := bI_f c69
            refine lv_iinc (v := nI (i + 1)) (lv' := [(3, .int (nI (i + 1))), (4, .int 1), (2, .int (nI j9)), (0, .ref (g 0)), (1, .int (-1))]) hx hb dX4_nextDearest_74 hl (k := 1) rfl (m_inc _) (by decide) rfl (fun ls hl => ?_)
            refine lv_goto (tgt := 4) hx hb dX4_nextDearest_77 (by decide) ?_
            exact ih4 (i + 1) (by omega) _ (by simp only [ndA, ndS, c50, c69, hn9, if_true, if_false, true_and, and_true, false_and, and_false, not_true_eq_false, not_false_eq_true, reduceCtorEq, eq_self_iff_true, and_self, Bool.false_eq_true, Bool.not_eq_true] <;> first | rfl | (rw [ex2]; rfl) | exact ex2) ls (lv_sub hl [0, 2, 3, 4] rfl)
          · have c69 := bI_t c69
            refine lv_iload_n hx hb dX4_nextDearest_72 rfl (lv_at hl 1 rfl) ?_
            refine lv_istore_n (lv' := [(2, .int (nI i)), (4, .int 1), (3, .int (nI i)), (0, .ref (g 0)), (1, .int (-1))]) hx hb dX4_nextDearest_73 rfl hl (by decide) rfl (fun ls hl => ?_)
            refine lv_iinc (v := nI (i + 1)) (lv' := [(3, .int (nI (i + 1))), (2, .int (nI i)), (4, .int 1), (0, .ref (g 0)), (1, .int (-1))]) hx hb dX4_nextDearest_74 hl (k := 2) rfl (m_inc _) (by decide) rfl (fun ls hl => ?_)
            refine lv_goto (tgt := 4) hx hb dX4_nextDearest_77 (by decide) ?_
            exact ih4 (i + 1) (by omega) _ (by simp only [ndA, ndS, c50, c69, hn9, if_true, if_false, true_and, and_true, false_and, and_false, not_true_eq_false, not_false_eq_true, reduceCtorEq, eq_self_iff_true, and_self, Bool.false_eq_true, Bool.not_eq_true] <;> first | rfl | (rw [ex2]; rfl) | exact ex2) ls (lv_sub hl [0, 1, 3, 4] rfl)
  exact lp4 (kU σ) 0 (by omega) _ (rfl) ls (lv_sub hl [0, 1, 2, 3] rfl)
set_option maxHeartbeats 4000000 in
set_option maxRecDepth 100000 in
theorem c_nextD (l : Launch) (E : gE) (A : Nat → Prop) (g : Nat → Nat) (M : gM) (σ : Sg) (hv : VS σ) (hw : CW E g M σ) (hp : PW E M σ) (a : Nat) (ha : a < kU σ) : Met l yX4_nextDearest wsX4_nextDearest ({ frames := 4, cells := 0, slots := 0, locals := 88 } : Room) (Pm E [.ref (g 0), .int (nI a)] (mP E A g M)) (k2_QcV (.int (oI (ndA σ (dearB σ a) (kU σ))))) 0 0 (fun _ => False) := by
  refine m_entry (by decide) rfl (Nat.le_of_ble_eq_true rfl) ?_
  intro p e s m args below meth c hx hb hr hml hts hown hlocks hin hM hK ls hl
  have hl : lv_has ls 5 [(0, .ref (g 0)), (1, .int (nI a))] := hl
  have hown : s.vm.findClass RX4 = some m.cls := hown
  obtain ⟨⟨hR9, hG9, hU9, hD9⟩, -⟩ := id hv
  obtain ⟨mc1, el1, h1, -⟩ := CW.LR hw
  obtain ⟨mc2, el2, h2, -⟩ := CW.LG hw
  obtain ⟨mc3, el3, h3, -⟩ := CW.LU hw
  refine lv_iconst (v := (-1)) hx hb dX4_nextDearest_0 (by decide) ?_
  refine lv_istore_n (lv' := [(2, .int (-1)), (0, .ref (g 0)), (1, .int (nI a))]) hx hb dX4_nextDearest_1 rfl hl (by decide) rfl (fun ls hl => ?_)
  refine lv_iconst (v := 0) hx hb dX4_nextDearest_2 (by decide) ?_
  refine lv_istore_n (lv' := [(3, .int 0), (2, .int (-1)), (0, .ref (g 0)), (1, .int (nI a))]) hx hb dX4_nextDearest_3 rfl hl (by decide) rfl (fun ls hl => ?_)
  have lp4 : ∀ (n4 i : Nat), n4 + i = kU σ → ∀ x2 : Int32, x2 = oI (ndA σ (dearB σ a) i) → ∀ ls : Array Slot, lv_has ls 5 [(3, .int (nI i)), (2, .int x2), (0, .ref (g 0)), (1, .int (nI a))] → W p l e ({ frames := 4, cells := 0, slots := 0, locals := 88 } : Room) s m args below meth c s.heap [] 0 0 (MQ below (k2_QcV (.int (oI (ndA σ (dearB σ a) (kU σ))))) args s 0 0 (fun _ => False)) (F0 m 4 ls []) := by
    intro n4
    induction n4 with
    | zero =>
      intro i hi4 x2 ex2 ls hl
      obtain rfl : kU σ = i := by omega
      refine lv_iload_n hx hb dX4_nextDearest_4 rfl (lv_at hl 0 rfl) ?_
      refine lv_aload_n hx hb dX4_nextDearest_5 rfl (lv_at hl 2 rfl) ?_
      refine m_get hx hb hts in_X4_nextDearest_X4 hown hK hM (CW.x hw) rfl 2 (by decide) (by decide +kernel) rfl dX4_nextDearest_6 ?_
      refine m_cV 0 [] [.int (nI (kU σ))] hx hb hml hown hts hK (c_size l E A g M (CW.LU hw)) gX4_nextDearest_Jx4a65c_size_8abf5 rfl rfl rfl (by decide +kernel) rfl ⟨Nat.le_of_ble_eq_true rfl, Nat.le_of_ble_eq_true rfl⟩ hM h3 rfl rfl hM hl.1 (Nat.le_of_ble_eq_true rfl) ⟨Nat.le_of_ble_eq_true rfl, Nat.le_of_ble_eq_true rfl⟩ rfl dX4_nextDearest_9 ?_
      refine lv_icmp_ge (tgt := 80) hx hb dX4_nextDearest_12 (by decide) (fun c12 => ?_) (fun c9 => absurd (Int32.le_refl _) c9)
      refine lv_iload_n hx hb dX4_nextDearest_80 rfl (lv_at hl 1 rfl) ?_
      exact r_i hx hb hr hlocks dX4_nextDearest_81 (by first | rfl | assumption)
    | succ n4 ih4 =>
      intro i hi4 x2 ex2 ls hl
      have hlt4 : i < kU σ := by omega
      refine lv_iload_n hx hb dX4_nextDearest_4 rfl (lv_at hl 0 rfl) ?_
      refine lv_aload_n hx hb dX4_nextDearest_5 rfl (lv_at hl 2 rfl) ?_
      refine m_get hx hb hts in_X4_nextDearest_X4 hown hK hM (CW.x hw) rfl 2 (by decide) (by decide +kernel) rfl dX4_nextDearest_6 ?_
      refine m_cV 0 [] [.int (nI i)] hx hb hml hown hts hK (c_size l E A g M (CW.LU hw)) gX4_nextDearest_Jx4a65c_size_8abf5 rfl rfl rfl (by decide +kernel) rfl ⟨Nat.le_of_ble_eq_true rfl, Nat.le_of_ble_eq_true rfl⟩ hM h3 rfl rfl hM hl.1 (Nat.le_of_ble_eq_true rfl) ⟨Nat.le_of_ble_eq_true rfl, Nat.le_of_ble_eq_true rfl⟩ rfl dX4_nextDearest_9 ?_
      refine lv_icmp_ge (tgt := 80) hx hb dX4_nextDearest_12 (by decide) (fun c9 => absurd c9 (nI_ge hlt4 (by omega))) (fun c12 => ?_)
      refine lv_iload_n hx hb dX4_nextDearest_15 rfl (lv_at hl 3 rfl) ?_
      refine lv_iconst (v := (-1)) hx hb dX4_nextDearest_16 (by decide) ?_
      refine lv_icmp_eq (tgt := 29) hx hb dX4_nextDearest_17 (by decide) (fun c9 => absurd c9 (nI_ne1 (by omega))) (fun c17 => ?_)
      refine lv_aload_n hx hb dX4_nextDearest_20 rfl (lv_at hl 2 rfl) ?_
      refine lv_iload_n hx hb dX4_nextDearest_21 rfl (lv_at hl 3 rfl) ?_
      refine lv_iload_n hx hb dX4_nextDearest_22 rfl (lv_at hl 0 rfl) ?_
      refine m_cV 2 [.int (nI a), .int (nI i)] [] hx hb hml hown hts hK (c_isDearer l E A g M σ hv hw hp a i (by omega) (by omega)) gX4_nextDearest_X4_isDearer rfl rfl rfl (by decide +kernel) rfl ⟨Nat.le_of_ble_eq_true rfl, Nat.le_of_ble_eq_true rfl⟩ hM (CW.x hw) rfl rfl hM hl.1 (Nat.le_of_ble_eq_true rfl) ⟨Nat.le_of_ble_eq_true rfl, Nat.le_of_ble_eq_true rfl⟩ rfl dX4_nextDearest_23 ?_
      refine lv_if_eq (tgt := 33) hx hb dX4_nextDearest_26 (by decide) (fun c26 => ?_) (fun c26 => ?_)
      · have c26 := bI_f c26
        refine lv_iconst (v := 0) hx hb dX4_nextDearest_33 (by decide) ?_
        refine lv_istore (lv' := [(4, .int 0), (3, .int (nI i)), (2, .int x2), (0, .ref (g 0)), (1, .int (nI a))]) hx hb dX4_nextDearest_34 hl (by decide) rfl (fun ls hl => ?_)
        refine lv_aload_n hx hb dX4_nextDearest_36 rfl (lv_at hl 3 rfl) ?_
        refine m_get hx hb hts in_X4_nextDearest_X4 hown hK hM (CW.x hw) rfl 2 (by decide) (by decide +kernel) rfl dX4_nextDearest_37 ?_
        refine lv_iload_n hx hb dX4_nextDearest_40 rfl (lv_at hl 1 rfl) ?_
        refine m_cV 1 [.int (nI i)] [] hx hb hml hown hts hK (c_get l E A g M (CW.LU hw) (by omega) i (by omega)) gX4_nextDearest_Jx4a65c_get_915e3 rfl rfl rfl (by decide +kernel) rfl ⟨Nat.le_of_ble_eq_true rfl, Nat.le_of_ble_eq_true rfl⟩ hM h3 rfl rfl hM hl.1 (Nat.le_of_ble_eq_true rfl) ⟨Nat.le_of_ble_eq_true rfl, Nat.le_of_ble_eq_true rfl⟩ rfl dX4_nextDearest_41 ?_
        refine m_cast (ci := 2) hx hb hts hown (by decide +kernel) hK hM (CW.guest hw (i := i) (by omega)) rfl dX4_nextDearest_44 ?_
        refine m_cV 0 [] [] hx hb hml hown hts hK (c_hasBid l E A g M (400 + i) (sGu σ i 1) (sGu σ i 0) (sGu σ i 2) (sGu σ i 3) (sGu σ i 4) (sGu σ i 5) (sGu σ i 6) (CW.guest hw (by omega))) gX4_nextDearest_X1_hasBid rfl rfl rfl (by decide +kernel) rfl ⟨Nat.le_of_ble_eq_true rfl, Nat.le_of_ble_eq_true rfl⟩ hM (CW.guest hw (i := i) (by omega)) rfl rfl hM hl.1 (Nat.le_of_ble_eq_true rfl) ⟨Nat.le_of_ble_eq_true rfl, Nat.le_of_ble_eq_true rfl⟩ rfl dX4_nextDearest_47 ?_
        refine lv_if_eq (tgt := 74) hx hb dX4_nextDearest_50 (by decide) (fun c50 => ?_) (fun c50 => ?_)
        · have c50 := of_decide_eq_false (bI_f c50)
          have c50 := Classical.not_not.mp c50
          refine lv_iinc (v := nI (i + 1)) (lv' := [(3, .int (nI (i + 1))), (4, .int 0), (2, .int x2), (0, .ref (g 0)), (1, .int (nI a))]) hx hb dX4_nextDearest_74 hl (k := 1) rfl (m_inc _) (by decide) rfl (fun ls hl => ?_)
          refine lv_goto (tgt := 4) hx hb dX4_nextDearest_77 (by decide) ?_
          exact ih4 (i + 1) (by omega) _ (by simp only [ndA, ndS, c26, c50, if_true, if_false, true_and, and_true, false_and, and_false, not_true_eq_false, not_false_eq_true, reduceCtorEq, eq_self_iff_true, and_self, Bool.false_eq_true, Bool.not_eq_true] <;> first | rfl | (rw [ex2]; rfl) | exact ex2) ls (lv_sub hl [0, 2, 3, 4] rfl)
        · have c50 := of_decide_eq_true (bI_t c50)
          refine lv_iload hx hb dX4_nextDearest_53 (lv_at hl 0 rfl) ?_
          refine lv_if_eq (tgt := 74) hx hb dX4_nextDearest_55 (by decide) (fun c9 => ?_) (fun c9 => absurd c9 (by decide))
          refine lv_iinc (v := nI (i + 1)) (lv' := [(3, .int (nI (i + 1))), (4, .int 0), (2, .int x2), (0, .ref (g 0)), (1, .int (nI a))]) hx hb dX4_nextDearest_74 hl (k := 1) rfl (m_inc _) (by decide) rfl (fun ls hl => ?_)
          refine lv_goto (tgt := 4) hx hb dX4_nextDearest_77 (by decide) ?_
          exact ih4 (i + 1) (by omega) _ (by simp only [ndA, ndS, c26, c50, if_true, if_false, true_and, and_true, false_and, and_false, not_true_eq_false, not_false_eq_true, reduceCtorEq, eq_self_iff_true, and_self, Bool.false_eq_true, Bool.not_eq_true] <;> first | rfl | (rw [ex2]; rfl) | exact ex2) ls (lv_sub hl [0, 2, 3, 4] rfl)
      · have c26 := bI_t c26
        refine lv_iconst (v := 1) hx hb dX4_nextDearest_29 (by decide) ?_
        refine lv_goto (tgt := 34) hx hb dX4_nextDearest_30 (by decide) ?_
        refine lv_istore (lv' := [(4, .int 1), (3, .int (nI i)), (2, .int x2), (0, .ref (g 0)), (1, .int (nI a))]) hx hb dX4_nextDearest_34 hl (by decide) rfl (fun ls hl => ?_)
        refine lv_aload_n hx hb dX4_nextDearest_36 rfl (lv_at hl 3 rfl) ?_
        refine m_get hx hb hts in_X4_nextDearest_X4 hown hK hM (CW.x hw) rfl 2 (by decide) (by decide +kernel) rfl dX4_nextDearest_37 ?_
        refine lv_iload_n hx hb dX4_nextDearest_40 rfl (lv_at hl 1 rfl) ?_
        refine m_cV 1 [.int (nI i)] [] hx hb hml hown hts hK (c_get l E A g M (CW.LU hw) (by omega) i (by omega)) gX4_nextDearest_Jx4a65c_get_915e3 rfl rfl rfl (by decide +kernel) rfl ⟨Nat.le_of_ble_eq_true rfl, Nat.le_of_ble_eq_true rfl⟩ hM h3 rfl rfl hM hl.1 (Nat.le_of_ble_eq_true rfl) ⟨Nat.le_of_ble_eq_true rfl, Nat.le_of_ble_eq_true rfl⟩ rfl dX4_nextDearest_41 ?_
        refine m_cast (ci := 2) hx hb hts hown (by decide +kernel) hK hM (CW.guest hw (i := i) (by omega)) rfl dX4_nextDearest_44 ?_
        refine m_cV 0 [] [] hx hb hml hown hts hK (c_hasBid l E A g M (400 + i) (sGu σ i 1) (sGu σ i 0) (sGu σ i 2) (sGu σ i 3) (sGu σ i 4) (sGu σ i 5) (sGu σ i 6) (CW.guest hw (by omega))) gX4_nextDearest_X1_hasBid rfl rfl rfl (by decide +kernel) rfl ⟨Nat.le_of_ble_eq_true rfl, Nat.le_of_ble_eq_true rfl⟩ hM (CW.guest hw (i := i) (by omega)) rfl rfl hM hl.1 (Nat.le_of_ble_eq_true rfl) ⟨Nat.le_of_ble_eq_true rfl, Nat.le_of_ble_eq_true rfl⟩ rfl dX4_nextDearest_47 ?_
        refine lv_if_eq (tgt := 74) hx hb dX4_nextDearest_50 (by decide) (fun c50 => ?_) (fun c50 => ?_)
        · have c50 := of_decide_eq_false (bI_f c50)
          have c50 := Classical.not_not.mp c50
          refine lv_iinc (v := nI (i + 1)) (lv' := [(3, .int (nI (i + 1))), (4, .int 1), (2, .int x2), (0, .ref (g 0)), (1, .int (nI a))]) hx hb dX4_nextDearest_74 hl (k := 1) rfl (m_inc _) (by decide) rfl (fun ls hl => ?_)
          refine lv_goto (tgt := 4) hx hb dX4_nextDearest_77 (by decide) ?_
          exact ih4 (i + 1) (by omega) _ (by simp only [ndA, ndS, c26, c50, if_true, if_false, true_and, and_true, false_and, and_false, not_true_eq_false, not_false_eq_true, reduceCtorEq, eq_self_iff_true, and_self, Bool.false_eq_true, Bool.not_eq_true] <;> first | rfl | (rw [ex2]; rfl) | exact ex2) ls (lv_sub hl [0, 2, 3, 4] rfl)
        · have c50 := of_decide_eq_true (bI_t c50)
          refine lv_iload hx hb dX4_nextDearest_53 (lv_at hl 0 rfl) ?_
          refine lv_if_eq (tgt := 74) hx hb dX4_nextDearest_55 (by decide) (fun c9 => absurd c9 (by decide)) (fun c9 => ?_)
          refine lv_iload_n hx hb dX4_nextDearest_58 rfl (lv_at hl 2 rfl) ?_
          refine lv_iconst (v := (-1)) hx hb dX4_nextDearest_59 (by decide) ?_
          refine lv_icmp_eq (tgt := 72) hx hb dX4_nextDearest_60 (by decide) (fun c60 => ?_) (fun c60 => ?_)
          · have hn9 := oI_none ex2 c60 (fun j hj => Nat.lt_trans (ndA_lt σ (dearB σ a) _ j hj) (by omega))
            refine lv_iload_n hx hb dX4_nextDearest_72 rfl (lv_at hl 1 rfl) ?_
            refine lv_istore_n (lv' := [(2, .int (nI i)), (4, .int 1), (3, .int (nI i)), (0, .ref (g 0)), (1, .int (nI a))]) hx hb dX4_nextDearest_73 rfl hl (by decide) rfl (fun ls hl => ?_)
            refine lv_iinc (v := nI (i + 1)) (lv' := [(3, .int (nI (i + 1))), (2, .int (nI i)), (4, .int 1), (0, .ref (g 0)), (1, .int (nI a))]) hx hb dX4_nextDearest_74 hl (k := 2) rfl (m_inc _) (by decide) rfl (fun ls hl => ?_)
            refine lv_goto (tgt := 4) hx hb dX4_nextDearest_77 (by decide) ?_
            exact ih4 (i + 1) (by omega) _ (by simp only [ndA, ndS, c26, c50, hn9, if_true, if_false, true_and, and_true, false_and, and_false, not_true_eq_false, not_false_eq_true, reduceCtorEq, eq_self_iff_true, and_self, Bool.false_eq_true, Bool.not_eq_true] <;> first | rfl | (rw [ex2]; rfl) | exact ex2) ls (lv_sub hl [0, 1, 3, 4] rfl)
          · obtain ⟨j9, hn9, hx9⟩ := oI_some ex2 c60
            have hj9 := ndA_lt σ (dearB σ a) _ j9 hn9
            subst hx9
            refine lv_aload_n hx hb dX4_nextDearest_63 rfl (lv_at hl 3 rfl) ?_
            refine lv_iload_n hx hb dX4_nextDearest_64 rfl (lv_at hl 1 rfl) ?_
            refine lv_iload_n hx hb dX4_nextDearest_65 rfl (lv_at hl 2 rfl) ?_
            refine m_cV 2 [.int (nI i), .int (nI j9)] [] hx hb hml hown hts hK (c_isDearer l E A g M σ hv hw hp i j9 (by omega) (by omega)) gX4_nextDearest_X4_isDearer rfl rfl rfl (by decide +kernel) rfl ⟨Nat.le_of_ble_eq_true rfl, Nat.le_of_ble_eq_true rfl⟩ hM (CW.x hw) rfl rfl hM hl.1 (Nat.le_of_ble_eq_true rfl) ⟨Nat.le_of_ble_eq_true rfl, Nat.le_of_ble_eq_true rfl⟩ rfl dX4_nextDearest_66 ?_
            refine lv_if_eq (tgt := 74) hx hb dX4_nextDearest_69 (by decide) (fun c69 => ?_) (fun c69 => ?_)
            · have c69 := bI_f c69
              refine lv_iinc (v := nI (i + 1)) (lv' := [(3, .int (nI (i + 1))), (4, .int 1), (2, .int (nI j9)), (0, .ref (g 0)), (1, .int (nI a))]) hx hb dX4_nextDearest_74 hl (k := 1) rfl (m_inc _) (by decide) rfl (fun ls hl => ?_)
              refine lv_goto (tgt := 4) hx hb dX4_nextDearest_77 (by decide) ?_
              exact ih4 (i + 1) (by omega) _ (by simp only [ndA, ndS, c26, c50, c69, hn9, if_true, if_false, true_and, and_true, false_and, and_false, not_true_eq_false, not_false_eq_true, reduceCtorEq, eq_self_iff_true, and_self, Bool.false_eq_true, Bool.not_eq_true] <;> first | rfl | (rw [ex2]; rfl) | exact ex2) ls (lv_sub hl [0, 2, 3, 4] rfl)
            · have c69 := bI_t c69
              refine lv_iload_n hx hb dX4_nextDearest_72 rfl (lv_at hl 1 rfl) ?_
              refine lv_istore_n (lv' := [(2, .int (nI i)), (4, .int 1), (3, .int (nI i)), (0, .ref (g 0)), (1, .int (nI a))]) hx hb dX4_nextDearest_73 rfl hl (by decide) rfl (fun ls hl => ?_)
              refine lv_iinc (v := nI (i + 1)) (lv' := [(3, .int (nI (i + 1))), (2, .int (nI i)), (4, .int 1), (0, .ref (g 0)), (1, .int (nI a))]) hx hb dX4_nextDearest_74 hl (k := 2) rfl (m_inc _) (by decide) rfl (fun ls hl => ?_)
              refine lv_goto (tgt := 4) hx hb dX4_nextDearest_77 (by decide) ?_
              exact ih4 (i + 1) (by omega) _ (by simp only [ndA, ndS, c26, c50, c69, hn9, if_true, if_false, true_and, and_true, false_and, and_false, not_true_eq_false, not_false_eq_true, reduceCtorEq, eq_self_iff_true, and_self, Bool.false_eq_true, Bool.not_eq_true] <;> first | rfl | (rw [ex2]; rfl) | exact ex2) ls (lv_sub hl [0, 1, 3, 4] rfl)
  exact lp4 (kU σ) 0 (by omega) _ (rfl) ls (lv_sub hl [0, 1, 2, 3] rfl)
def rmT (σ : Sg) (k : Nat) : Nat → Int32
  | 0 => sRm σ k 0 | 1 => sRm σ k 1 | 2 => sRm σ k 2 | 3 => bitC (sJn σ k) | 4 => sRm σ k 3 | _ => sRm σ k 4
def wnT (σ : Sg) (k : Nat) : Nat → Int32
  | 0 => wnr σ k | 1 => due σ k (wnr σ k) | _ => bcA σ k (kU σ)
def ctT (σ : Sg) : Nat → Int32
  | 0 => sN σ | 1 => nI (kR σ) | 2 => nI (kD σ) | 3 => nI (kG σ) | 4 => nI (kU σ) | 5 => sH σ | 6 => bwA σ (kU σ) | 7 => sB σ | _ => rtA σ (kR σ)
theorem in_X4_at_X4 : ∀ w ∈ u_ws RX4 TX4 8, w ∈ wsX4_at := by decide +kernel
set_option maxHeartbeats 4000000 in
set_option maxRecDepth 100000 in
theorem c_at (l : Launch) (E : gE) (A : Nat → Prop) (g : Nat → Nat) (M : gM) (σ : Sg) (hv : VS σ) (hw : CW E g M σ) (hp : PW E M σ) (i j : Nat) (hi : i < kG σ) (hj : j < 12) : Met l yX4_at wsX4_at ({ frames := 3, cells := 0, slots := 0, locals := 64 } : Room) (Pm E [.ref (g 0), .int (nI i), .int (nI j)] (mP E A g M)) (k2_QcV (.int (plc σ i j))) 0 0 (fun _ => False) := by
  refine m_entry (by decide) rfl (Nat.le_of_ble_eq_true rfl) ?_
  intro p e s m args below meth c hx hb hr hml hts hown hlocks hin hM hK ls hl
  have hl : lv_has ls 3 [(0, .ref (g 0)), (1, .int (nI i)), (2, .int (nI j))] := hl
  have hown : s.vm.findClass RX4 = some m.cls := hown
  obtain ⟨⟨hR9, hG9, hU9, hD9⟩, -⟩ := id hv
  obtain ⟨mc1, el1, h1, -⟩ := CW.LR hw
  obtain ⟨mc2, el2, h2, -⟩ := CW.LG hw
  obtain ⟨mc3, el3, h3, -⟩ := CW.LU hw
  refine lv_aload_n hx hb dX4_at_0 rfl (lv_at hl 0 rfl) ?_
  refine lv_iload_n hx hb dX4_at_1 rfl (lv_at hl 1 rfl) ?_
  refine m_cV 1 [.int (nI i)] [] hx hb hml hown hts hK (c_isGhostY l E A g M σ hv hw i (by omega)) gX4_at_X4_isGhost rfl rfl rfl (by decide +kernel) rfl ⟨Nat.le_of_ble_eq_true rfl, Nat.le_of_ble_eq_true rfl⟩ hM (CW.x hw) rfl rfl hM hl.1 (Nat.le_of_ble_eq_true rfl) ⟨Nat.le_of_ble_eq_true rfl, Nat.le_of_ble_eq_true rfl⟩ rfl dX4_at_2 ?_
  refine lv_if_ne (tgt := 18) hx hb dX4_at_5 (by decide) (fun c9 => ?_) (fun c9 => absurd c9 (by decide))
  refine lv_iload_n hx hb dX4_at_18 rfl (lv_at hl 2 rfl) ?_
  refine lv_iconst (v := 0) hx hb dX4_at_19 (by decide) ?_
  refine lv_bipush (v := 11) hx hb dX4_at_20 (by decide) ?_
  refine m_cS 3 [.int (nI j), .int 0, .int 11] [] hx hb hml hown hts hK (c_withinY l E A g M (nI j) 0 11 (⟨nI_pos' (by omega), nI_le (b := 11) (by omega) (by decide)⟩)) gX4_at_X4_within rfl rfl rfl (by decide +kernel) rfl ⟨Nat.le_of_ble_eq_true rfl, Nat.le_of_ble_eq_true rfl⟩ trivial hl.1 (Nat.le_of_ble_eq_true rfl) ⟨Nat.le_of_ble_eq_true rfl, Nat.le_of_ble_eq_true rfl⟩ rfl dX4_at_22 ?_
  refine lv_if_ne (tgt := 38) hx hb dX4_at_25 (by decide) (fun c9 => ?_) (fun c9 => absurd c9 (by decide))
  refine lv_aload_n hx hb dX4_at_38 rfl (lv_at hl 0 rfl) ?_
  refine m_get hx hb hts in_X4_at_X4 hown hK hM (CW.x hw) rfl 1 (by decide) (by decide +kernel) rfl dX4_at_39 ?_
  refine lv_iload_n hx hb dX4_at_42 rfl (lv_at hl 1 rfl) ?_
  refine m_cV 1 [.int (nI i)] [] hx hb hml hown hts hK (c_get l E A g M (CW.LG hw) (by omega) i (by omega)) gX4_at_Jx4a65c_get_915e3 rfl rfl rfl (by decide +kernel) rfl ⟨Nat.le_of_ble_eq_true rfl, Nat.le_of_ble_eq_true rfl⟩ hM h2 rfl rfl hM hl.1 (Nat.le_of_ble_eq_true rfl) ⟨Nat.le_of_ble_eq_true rfl, Nat.le_of_ble_eq_true rfl⟩ rfl dX4_at_43 ?_
  refine m_cast (ci := 1) hx hb hts hown (by decide +kernel) hK hM (CW.ghost hw (i := i) (by omega)) rfl dX4_at_46 ?_
  refine lv_iload_n hx hb dX4_at_49 rfl (lv_at hl 2 rfl) ?_
  refine m_cV 1 [.int (nI j)] [] hx hb hml hown hts hK (c_place l E A g M σ hv hw hp i (by omega) j (by omega)) gX4_at_X0_placeIn rfl rfl rfl (by decide +kernel) rfl ⟨Nat.le_of_ble_eq_true rfl, Nat.le_of_ble_eq_true rfl⟩ hM (CW.ghost hw (i := i) (by omega)) rfl rfl hM hl.1 (Nat.le_of_ble_eq_true rfl) ⟨Nat.le_of_ble_eq_true rfl, Nat.le_of_ble_eq_true rfl⟩ rfl dX4_at_50 ?_
  exact r_i hx hb hr hlocks dX4_at_53 (by first | rfl | assumption)
set_option maxHeartbeats 4000000 in
set_option maxRecDepth 100000 in
theorem c_haunting1 (l : Launch) (E : gE) (A : Nat → Prop) (g : Nat → Nat) (M : gM) (σ : Sg) (hv : VS σ) (hw : CW E g M σ) (hp : PW E M σ) (k : Nat) (hk : k < kR σ) : Met l yX4_haunting wsX4_haunting ({ frames := 5, cells := 0, slots := 0, locals := 114 } : Room) (Pm E [.ref (g 0), .int (nI k), .int (-1)] (mP E A g M)) (k2_QcV (.int (hON σ (nI k) (-1) 12))) 0 0 (fun _ => False) := by
  refine m_entry (by decide) rfl (Nat.le_of_ble_eq_true rfl) ?_
  intro p e s m args below meth c hx hb hr hml hts hown hlocks hin hM hK ls hl
  have hl : lv_has ls 3 [(0, .ref (g 0)), (1, .int (nI k)), (2, .int (-1))] := hl
  have hown : s.vm.findClass RX4 = some m.cls := hown
  obtain ⟨⟨hR9, hG9, hU9, hD9⟩, -⟩ := id hv
  obtain ⟨mc1, el1, h1, -⟩ := CW.LR hw
  obtain ⟨mc2, el2, h2, -⟩ := CW.LG hw
  obtain ⟨mc3, el3, h3, -⟩ := CW.LU hw
  refine lv_aload_n hx hb dX4_haunting_0 rfl (lv_at hl 0 rfl) ?_
  refine lv_iload_n hx hb dX4_haunting_1 rfl (lv_at hl 1 rfl) ?_
  refine m_cV 1 [.int (nI k)] [] hx hb hml hown hts hK (c_isRoomY l E A g M σ hv hw k (by omega)) gX4_haunting_X4_isRoom rfl rfl rfl (by decide +kernel) rfl ⟨Nat.le_of_ble_eq_true rfl, Nat.le_of_ble_eq_true rfl⟩ hM (CW.x hw) rfl rfl hM hl.1 (Nat.le_of_ble_eq_true rfl) ⟨Nat.le_of_ble_eq_true rfl, Nat.le_of_ble_eq_true rfl⟩ rfl dX4_haunting_2 ?_
  refine lv_if_ne (tgt := 18) hx hb dX4_haunting_5 (by decide) (fun c9 => ?_) (fun c9 => absurd c9 (by decide))
  refine lv_iload_n hx hb dX4_haunting_18 rfl (lv_at hl 2 rfl) ?_
  refine lv_iconst (v := (-1)) hx hb dX4_haunting_19 (by decide) ?_
  refine lv_bipush (v := 11) hx hb dX4_haunting_20 (by decide) ?_
  refine m_cS 3 [.int (-1), .int (-1), .int 11] [] hx hb hml hown hts hK (c_withinY l E A g M (-1) (-1) 11 (by decide)) gX4_haunting_X4_within rfl rfl rfl (by decide +kernel) rfl ⟨Nat.le_of_ble_eq_true rfl, Nat.le_of_ble_eq_true rfl⟩ trivial hl.1 (Nat.le_of_ble_eq_true rfl) ⟨Nat.le_of_ble_eq_true rfl, Nat.le_of_ble_eq_true rfl⟩ rfl dX4_haunting_22 ?_
  refine lv_if_ne (tgt := 38) hx hb dX4_haunting_25 (by decide) (fun c9 => ?_) (fun c9 => absurd c9 (by decide))
  refine lv_iload_n hx hb dX4_haunting_38 rfl (lv_at hl 2 rfl) ?_
  refine lv_iconst (v := (-1)) hx hb dX4_haunting_39 (by decide) ?_
  refine lv_icmp_ne (tgt := 52) hx hb dX4_haunting_40 (by decide) (fun c9 => absurd c9 (by decide)) (fun c9 => ?_)
  refine lv_aload_n hx hb dX4_haunting_43 rfl (lv_at hl 0 rfl) ?_
  refine lv_iload_n hx hb dX4_haunting_44 rfl (lv_at hl 1 rfl) ?_
  refine lv_iconst (v := (-1)) hx hb dX4_haunting_45 (by decide) ?_
  refine m_cV 2 [.int (nI k), .int (-1)] [] hx hb hml hown hts hK (c_hON l E A g M σ hv hw hp (nI k) (-1)) gX4_haunting_X4_hauntingOfNight rfl rfl rfl (by decide +kernel) rfl ⟨Nat.le_of_ble_eq_true rfl, Nat.le_of_ble_eq_true rfl⟩ hM (CW.x hw) rfl rfl hM hl.1 (Nat.le_of_ble_eq_true rfl) ⟨Nat.le_of_ble_eq_true rfl, Nat.le_of_ble_eq_true rfl⟩ rfl dX4_haunting_46 ?_
  refine lv_goto (tgt := 59) hx hb dX4_haunting_49 (by decide) ?_
  exact r_i hx hb hr hlocks dX4_haunting_59 (by first | rfl | assumption)
set_option maxHeartbeats 4000000 in
set_option maxRecDepth 100000 in
theorem c_haunting2 (l : Launch) (E : gE) (A : Nat → Prop) (g : Nat → Nat) (M : gM) (σ : Sg) (hv : VS σ) (hw : CW E g M σ) (hp : PW E M σ) (k j : Nat) (hk : k < kR σ) (hj : j < 12) : Met l yX4_haunting wsX4_haunting ({ frames := 4, cells := 0, slots := 0, locals := 90 } : Room) (Pm E [.ref (g 0), .int (nI k), .int (nI j)] (mP E A g M)) (k2_QcV (.int (hIH σ (nI k) j (-1) (kG σ)))) 0 0 (fun _ => False) := by
  refine m_entry (by decide) rfl (Nat.le_of_ble_eq_true rfl) ?_
  intro p e s m args below meth c hx hb hr hml hts hown hlocks hin hM hK ls hl
  have hl : lv_has ls 3 [(0, .ref (g 0)), (1, .int (nI k)), (2, .int (nI j))] := hl
  have hown : s.vm.findClass RX4 = some m.cls := hown
  obtain ⟨⟨hR9, hG9, hU9, hD9⟩, -⟩ := id hv
  obtain ⟨mc1, el1, h1, -⟩ := CW.LR hw
  obtain ⟨mc2, el2, h2, -⟩ := CW.LG hw
  obtain ⟨mc3, el3, h3, -⟩ := CW.LU hw
  refine lv_aload_n hx hb dX4_haunting_0 rfl (lv_at hl 0 rfl) ?_
  refine lv_iload_n hx hb dX4_haunting_1 rfl (lv_at hl 1 rfl) ?_
  refine m_cV 1 [.int (nI k)] [] hx hb hml hown hts hK (c_isRoomY l E A g M σ hv hw k (by omega)) gX4_haunting_X4_isRoom rfl rfl rfl (by decide +kernel) rfl ⟨Nat.le_of_ble_eq_true rfl, Nat.le_of_ble_eq_true rfl⟩ hM (CW.x hw) rfl rfl hM hl.1 (Nat.le_of_ble_eq_true rfl) ⟨Nat.le_of_ble_eq_true rfl, Nat.le_of_ble_eq_true rfl⟩ rfl dX4_haunting_2 ?_
  refine lv_if_ne (tgt := 18) hx hb dX4_haunting_5 (by decide) (fun c9 => ?_) (fun c9 => absurd c9 (by decide))
  refine lv_iload_n hx hb dX4_haunting_18 rfl (lv_at hl 2 rfl) ?_
  refine lv_iconst (v := (-1)) hx hb dX4_haunting_19 (by decide) ?_
  refine lv_bipush (v := 11) hx hb dX4_haunting_20 (by decide) ?_
  refine m_cS 3 [.int (nI j), .int (-1), .int 11] [] hx hb hml hown hts hK (c_withinY l E A g M (nI j) (-1) 11 (⟨Int32.le_trans (by decide) (nI_pos' (by omega)), nI_le (b := 11) (by omega) (by decide)⟩)) gX4_haunting_X4_within rfl rfl rfl (by decide +kernel) rfl ⟨Nat.le_of_ble_eq_true rfl, Nat.le_of_ble_eq_true rfl⟩ trivial hl.1 (Nat.le_of_ble_eq_true rfl) ⟨Nat.le_of_ble_eq_true rfl, Nat.le_of_ble_eq_true rfl⟩ rfl dX4_haunting_22 ?_
  refine lv_if_ne (tgt := 38) hx hb dX4_haunting_25 (by decide) (fun c9 => ?_) (fun c9 => absurd c9 (by decide))
  refine lv_iload_n hx hb dX4_haunting_38 rfl (lv_at hl 2 rfl) ?_
  refine lv_iconst (v := (-1)) hx hb dX4_haunting_39 (by decide) ?_
  refine lv_icmp_ne (tgt := 52) hx hb dX4_haunting_40 (by decide) (fun c40 => ?_) (fun c9 => absurd c9 (nI_ne1 (by omega)))
  refine lv_aload_n hx hb dX4_haunting_52 rfl (lv_at hl 0 rfl) ?_
  refine lv_iload_n hx hb dX4_haunting_53 rfl (lv_at hl 1 rfl) ?_
  refine lv_iload_n hx hb dX4_haunting_54 rfl (lv_at hl 2 rfl) ?_
  refine lv_iconst (v := (-1)) hx hb dX4_haunting_55 (by decide) ?_
  refine m_cV 3 [.int (nI k), .int (nI j), .int (-1)] [] hx hb hml hown hts hK (c_hIH l E A g M σ hv hw hp (nI k) j (by omega) (-1)) gX4_haunting_X4_hauntingInHour rfl rfl rfl (by decide +kernel) rfl ⟨Nat.le_of_ble_eq_true rfl, Nat.le_of_ble_eq_true rfl⟩ hM (CW.x hw) rfl rfl hM hl.1 (Nat.le_of_ble_eq_true rfl) ⟨Nat.le_of_ble_eq_true rfl, Nat.le_of_ble_eq_true rfl⟩ rfl dX4_haunting_56 ?_
  exact r_i hx hb hr hlocks dX4_haunting_59 (by first | rfl | assumption)
theorem in_X4_room_X2 : ∀ w ∈ u_ws RX2 TX2 6, w ∈ wsX4_room := by decide +kernel
theorem in_X4_room_X4 : ∀ w ∈ u_ws RX4 TX4 8, w ∈ wsX4_room := by decide +kernel
set_option maxHeartbeats 4000000 in
set_option maxRecDepth 100000 in
theorem c_room (l : Launch) (E : gE) (A : Nat → Prop) (g : Nat → Nat) (M : gM) (σ : Sg) (hv : VS σ) (hw : CW E g M σ) (hp : PW E M σ) (k w : Nat) (hk : k < kR σ) (hw9 : w < 6) : Met l yX4_room wsX4_room ({ frames := 3, cells := 0, slots := 0, locals := 64 } : Room) (Pm E [.ref (g 0), .int (nI k), .int (nI w)] (mP E A g M)) (k2_QcV (.int (rmT σ k w))) 0 0 (fun _ => False) := by
  refine m_entry (by decide) rfl (Nat.le_of_ble_eq_true rfl) ?_
  intro p e s m args below meth c hx hb hr hml hts hown hlocks hin hM hK ls hl
  have hl : lv_has ls 4 [(0, .ref (g 0)), (1, .int (nI k)), (2, .int (nI w))] := hl
  have hown : s.vm.findClass RX4 = some m.cls := hown
  obtain ⟨⟨hR9, hG9, hU9, hD9⟩, -⟩ := id hv
  obtain ⟨mc1, el1, h1, -⟩ := CW.LR hw
  obtain ⟨mc2, el2, h2, -⟩ := CW.LG hw
  obtain ⟨mc3, el3, h3, -⟩ := CW.LU hw
  refine lv_aload_n hx hb dX4_room_0 rfl (lv_at hl 0 rfl) ?_
  refine lv_iload_n hx hb dX4_room_1 rfl (lv_at hl 1 rfl) ?_
  refine m_cV 1 [.int (nI k)] [] hx hb hml hown hts hK (c_isRoomY l E A g M σ hv hw k (by omega)) gX4_room_X4_isRoom rfl rfl rfl (by decide +kernel) rfl ⟨Nat.le_of_ble_eq_true rfl, Nat.le_of_ble_eq_true rfl⟩ hM (CW.x hw) rfl rfl hM hl.1 (Nat.le_of_ble_eq_true rfl) ⟨Nat.le_of_ble_eq_true rfl, Nat.le_of_ble_eq_true rfl⟩ rfl dX4_room_2 ?_
  refine lv_if_ne (tgt := 18) hx hb dX4_room_5 (by decide) (fun c9 => ?_) (fun c9 => absurd c9 (by decide))
  refine lv_aload_n hx hb dX4_room_18 rfl (lv_at hl 0 rfl) ?_
  refine m_get hx hb hts in_X4_room_X4 hown hK hM (CW.x hw) rfl 0 (by decide) (by decide +kernel) rfl dX4_room_19 ?_
  refine lv_iload_n hx hb dX4_room_22 rfl (lv_at hl 1 rfl) ?_
  refine m_cV 1 [.int (nI k)] [] hx hb hml hown hts hK (c_get l E A g M (CW.LR hw) (by omega) k (by omega)) gX4_room_Jx4a65c_get_915e3 rfl rfl rfl (by decide +kernel) rfl ⟨Nat.le_of_ble_eq_true rfl, Nat.le_of_ble_eq_true rfl⟩ hM h1 rfl rfl hM hl.1 (Nat.le_of_ble_eq_true rfl) ⟨Nat.le_of_ble_eq_true rfl, Nat.le_of_ble_eq_true rfl⟩ rfl dX4_room_23 ?_
  refine m_cast (ci := 3) hx hb hts hown (by decide +kernel) hK hM (CW.room hw (i := k) (by omega)) rfl dX4_room_26 ?_
  refine lv_astore_n (lv' := [(3, .ref (g (100 + k))), (0, .ref (g 0)), (1, .int (nI k)), (2, .int (nI w))]) hx hb dX4_room_29 rfl hl (by decide) rfl (fun ls hl => ?_)
  refine lv_iload_n hx hb dX4_room_30 rfl (lv_at hl 3 rfl) ?_
  rcases (show w = 0 ∨ w = 1 ∨ w = 2 ∨ w = 3 ∨ w = 4 ∨ w = 5 by omega) with rfl | rfl | rfl | rfl | rfl | rfl
  · refine lv_tableIn (off := 37) (tgt := 68) hx hb dX4_room_31 (by decide) (by decide) (by decide) (by decide) ?_
    refine lv_aload_n hx hb dX4_room_68 rfl (lv_at hl 0 rfl) ?_
    refine m_get hx hb hts in_X4_room_X2 hown hK hM (CW.room hw (i := k) (by omega)) rfl 0 (by decide) (by decide +kernel) rfl dX4_room_69 ?_
    exact r_i hx hb hr hlocks dX4_room_72 (rfl)
  · refine lv_tableIn (off := 42) (tgt := 73) hx hb dX4_room_31 (by decide) (by decide) (by decide) (by decide) ?_
    refine lv_aload_n hx hb dX4_room_73 rfl (lv_at hl 0 rfl) ?_
    refine m_get hx hb hts in_X4_room_X2 hown hK hM (CW.room hw (i := k) (by omega)) rfl 2 (by decide) (by decide +kernel) rfl dX4_room_74 ?_
    exact r_i hx hb hr hlocks dX4_room_77 (rfl)
  · refine lv_tableIn (off := 47) (tgt := 78) hx hb dX4_room_31 (by decide) (by decide) (by decide) (by decide) ?_
    refine lv_aload_n hx hb dX4_room_78 rfl (lv_at hl 0 rfl) ?_
    refine m_get hx hb hts in_X4_room_X2 hown hK hM (CW.room hw (i := k) (by omega)) rfl 1 (by decide) (by decide +kernel) rfl dX4_room_79 ?_
    exact r_i hx hb hr hlocks dX4_room_82 (rfl)
  · refine lv_tableIn (off := 52) (tgt := 83) hx hb dX4_room_31 (by decide) (by decide) (by decide) (by decide) ?_
    refine lv_aload_n hx hb dX4_room_83 rfl (lv_at hl 0 rfl) ?_
    refine m_cV 0 [] [] hx hb hml hown hts hK (c_doorsThere l E A g M (100 + k) (sRm σ k 0) (sRm σ k 2) (sRm σ k 1) (sRm σ k 3) (sRm σ k 4) (sJn σ k) (CW.room hw (by omega))) gX4_room_X2_doorsThere rfl rfl rfl (by decide +kernel) rfl ⟨Nat.le_of_ble_eq_true rfl, Nat.le_of_ble_eq_true rfl⟩ hM (CW.room hw (i := k) (by omega)) rfl rfl hM hl.1 (Nat.le_of_ble_eq_true rfl) ⟨Nat.le_of_ble_eq_true rfl, Nat.le_of_ble_eq_true rfl⟩ rfl dX4_room_84 ?_
    exact r_i hx hb hr hlocks dX4_room_87 (rfl)
  · refine lv_tableIn (off := 57) (tgt := 88) hx hb dX4_room_31 (by decide) (by decide) (by decide) (by decide) ?_
    refine lv_aload_n hx hb dX4_room_88 rfl (lv_at hl 0 rfl) ?_
    refine m_get hx hb hts in_X4_room_X2 hown hK hM (CW.room hw (i := k) (by omega)) rfl 3 (by decide) (by decide +kernel) rfl dX4_room_89 ?_
    exact r_i hx hb hr hlocks dX4_room_92 (rfl)
  · refine lv_tableIn (off := 62) (tgt := 93) hx hb dX4_room_31 (by decide) (by decide) (by decide) (by decide) ?_
    refine lv_aload_n hx hb dX4_room_93 rfl (lv_at hl 0 rfl) ?_
    refine m_get hx hb hts in_X4_room_X2 hown hK hM (CW.room hw (i := k) (by omega)) rfl 4 (by decide) (by decide +kernel) rfl dX4_room_94 ?_
    exact r_i hx hb hr hlocks dX4_room_97 (rfl)
set_option maxHeartbeats 4000000 in
set_option maxRecDepth 100000 in
theorem c_wins (l : Launch) (E : gE) (A : Nat → Prop) (g : Nat → Nat) (M : gM) (σ : Sg) (hv : VS σ) (hw : CW E g M σ) (hp : PW E M σ) (k w : Nat) (hk : k < kR σ) (hw9 : w < 3) : Met l yX4_wins wsX4_wins ({ frames := 5, cells := 0, slots := 0, locals := 111 } : Room) (Pm E [.ref (g 0), .int (nI k), .int (nI w)] (mP E A g M)) (k2_QcV (.int (wnT σ k w))) 0 0 (fun _ => False) := by
  refine m_entry (by decide) rfl (Nat.le_of_ble_eq_true rfl) ?_
  intro p e s m args below meth c hx hb hr hml hts hown hlocks hin hM hK ls hl
  have hl : lv_has ls 3 [(0, .ref (g 0)), (1, .int (nI k)), (2, .int (nI w))] := hl
  have hown : s.vm.findClass RX4 = some m.cls := hown
  obtain ⟨⟨hR9, hG9, hU9, hD9⟩, -⟩ := id hv
  obtain ⟨mc1, el1, h1, -⟩ := CW.LR hw
  obtain ⟨mc2, el2, h2, -⟩ := CW.LG hw
  obtain ⟨mc3, el3, h3, -⟩ := CW.LU hw
  refine lv_aload_n hx hb dX4_wins_0 rfl (lv_at hl 0 rfl) ?_
  refine lv_iload_n hx hb dX4_wins_1 rfl (lv_at hl 1 rfl) ?_
  refine m_cV 1 [.int (nI k)] [] hx hb hml hown hts hK (c_isRoomY l E A g M σ hv hw k (by omega)) gX4_wins_X4_isRoom rfl rfl rfl (by decide +kernel) rfl ⟨Nat.le_of_ble_eq_true rfl, Nat.le_of_ble_eq_true rfl⟩ hM (CW.x hw) rfl rfl hM hl.1 (Nat.le_of_ble_eq_true rfl) ⟨Nat.le_of_ble_eq_true rfl, Nat.le_of_ble_eq_true rfl⟩ rfl dX4_wins_2 ?_
  refine lv_if_ne (tgt := 18) hx hb dX4_wins_5 (by decide) (fun c9 => ?_) (fun c9 => absurd c9 (by decide))
  refine lv_iload_n hx hb dX4_wins_18 rfl (lv_at hl 2 rfl) ?_
  rcases (show w = 0 ∨ w = 1 ∨ w = 2 by omega) with rfl | rfl | rfl
  · refine lv_tableIn (off := 25) (tgt := 44) hx hb dX4_wins_19 (by decide) (by decide) (by decide) (by decide) ?_
    refine lv_aload_n hx hb dX4_wins_44 rfl (lv_at hl 0 rfl) ?_
    refine lv_iload_n hx hb dX4_wins_45 rfl (lv_at hl 1 rfl) ?_
    refine m_cV 1 [.int (nI k)] [] hx hb hml hown hts hK (c_winnerOf l E A g M σ hv hw hp k (by omega)) gX4_wins_X4_winnerOf rfl rfl rfl (by decide +kernel) rfl ⟨Nat.le_of_ble_eq_true rfl, Nat.le_of_ble_eq_true rfl⟩ hM (CW.x hw) rfl rfl hM hl.1 (Nat.le_of_ble_eq_true rfl) ⟨Nat.le_of_ble_eq_true rfl, Nat.le_of_ble_eq_true rfl⟩ rfl dX4_wins_46 ?_
    exact r_i hx hb hr hlocks dX4_wins_49 (rfl)
  · refine lv_tableIn (off := 31) (tgt := 50) hx hb dX4_wins_19 (by decide) (by decide) (by decide) (by decide) ?_
    refine lv_aload_n hx hb dX4_wins_50 rfl (lv_at hl 0 rfl) ?_
    refine lv_iload_n hx hb dX4_wins_51 rfl (lv_at hl 1 rfl) ?_
    refine lv_aload_n hx hb dX4_wins_52 rfl (lv_at hl 0 rfl) ?_
    refine lv_iload_n hx hb dX4_wins_53 rfl (lv_at hl 1 rfl) ?_
    refine m_cV 1 [.int (nI k)] [.int (nI k), .ref (g 0)] hx hb hml hown hts hK (c_winnerOf l E A g M σ hv hw hp k (by omega)) gX4_wins_X4_winnerOf rfl rfl rfl (by decide +kernel) rfl ⟨Nat.le_of_ble_eq_true rfl, Nat.le_of_ble_eq_true rfl⟩ hM (CW.x hw) rfl rfl hM hl.1 (Nat.le_of_ble_eq_true rfl) ⟨Nat.le_of_ble_eq_true rfl, Nat.le_of_ble_eq_true rfl⟩ rfl dX4_wins_54 ?_
    refine m_cV 2 [.int (nI k), .int (wnr σ k)] [] hx hb hml hown hts hK (c_dueFor l E A g M σ hv hw hp k (by omega) (wnr σ k)) gX4_wins_X4_dueFor rfl rfl rfl (by decide +kernel) rfl ⟨Nat.le_of_ble_eq_true rfl, Nat.le_of_ble_eq_true rfl⟩ hM (CW.x hw) rfl rfl hM hl.1 (Nat.le_of_ble_eq_true rfl) ⟨Nat.le_of_ble_eq_true rfl, Nat.le_of_ble_eq_true rfl⟩ rfl dX4_wins_57 ?_
    exact r_i hx hb hr hlocks dX4_wins_60 (rfl)
  · refine lv_tableIn (off := 42) (tgt := 61) hx hb dX4_wins_19 (by decide) (by decide) (by decide) (by decide) ?_
    refine lv_aload_n hx hb dX4_wins_61 rfl (lv_at hl 0 rfl) ?_
    refine lv_iload_n hx hb dX4_wins_62 rfl (lv_at hl 1 rfl) ?_
    refine m_cV 1 [.int (nI k)] [] hx hb hml hown hts hK (c_bidsThatCount l E A g M σ hv hw hp k (by omega)) gX4_wins_X4_bidsThatCount rfl rfl rfl (by decide +kernel) rfl ⟨Nat.le_of_ble_eq_true rfl, Nat.le_of_ble_eq_true rfl⟩ hM (CW.x hw) rfl rfl hM hl.1 (Nat.le_of_ble_eq_true rfl) ⟨Nat.le_of_ble_eq_true rfl, Nat.le_of_ble_eq_true rfl⟩ rfl dX4_wins_63 ?_
    exact r_i hx hb hr hlocks dX4_wins_66 (rfl)
theorem in_X4_count_X4 : ∀ w ∈ u_ws RX4 TX4 8, w ∈ wsX4_count := by decide +kernel
set_option maxHeartbeats 4000000 in
set_option maxRecDepth 100000 in
theorem c_count (l : Launch) (E : gE) (A : Nat → Prop) (g : Nat → Nat) (M : gM) (σ : Sg) (hv : VS σ) (hw : CW E g M σ) (hp : PW E M σ) (w : Nat) (hw9 : w < 9) : Met l yX4_count wsX4_count ({ frames := 6, cells := 0, slots := 0, locals := 133 } : Room) (Pm E [.ref (g 0), .int (nI w)] (mP E A g M)) (k2_QcV (.int (ctT σ w))) 0 0 (fun _ => False) := by
  refine m_entry (by decide) rfl (Nat.le_of_ble_eq_true rfl) ?_
  intro p e s m args below meth c hx hb hr hml hts hown hlocks hin hM hK ls hl
  have hl : lv_has ls 2 [(0, .ref (g 0)), (1, .int (nI w))] := hl
  have hown : s.vm.findClass RX4 = some m.cls := hown
  obtain ⟨⟨hR9, hG9, hU9, hD9⟩, -⟩ := id hv
  obtain ⟨mc1, el1, h1, -⟩ := CW.LR hw
  obtain ⟨mc2, el2, h2, -⟩ := CW.LG hw
  obtain ⟨mc3, el3, h3, -⟩ := CW.LU hw
  refine lv_iload_n hx hb dX4_count_0 rfl (lv_at hl 1 rfl) ?_
  rcases (show w = 0 ∨ w = 1 ∨ w = 2 ∨ w = 3 ∨ w = 4 ∨ w = 5 ∨ w = 6 ∨ w = 7 ∨ w = 8 by omega) with rfl | rfl | rfl | rfl | rfl | rfl | rfl | rfl | rfl
  · refine lv_tableIn (off := 51) (tgt := 52) hx hb dX4_count_1 (by decide) (by decide) (by decide) (by decide) ?_
    refine lv_aload_n hx hb dX4_count_52 rfl (lv_at hl 0 rfl) ?_
    refine m_get hx hb hts in_X4_count_X4 hown hK hM (CW.x hw) rfl 5 (by decide) (by decide +kernel) rfl dX4_count_53 ?_
    exact r_i hx hb hr hlocks dX4_count_56 (rfl)
  · refine lv_tableIn (off := 56) (tgt := 57) hx hb dX4_count_1 (by decide) (by decide) (by decide) (by decide) ?_
    refine lv_aload_n hx hb dX4_count_57 rfl (lv_at hl 0 rfl) ?_
    refine m_get hx hb hts in_X4_count_X4 hown hK hM (CW.x hw) rfl 0 (by decide) (by decide +kernel) rfl dX4_count_58 ?_
    refine m_cV 0 [] [] hx hb hml hown hts hK (c_size l E A g M (CW.LR hw)) gX4_count_Jx4a65c_size_8abf5 rfl rfl rfl (by decide +kernel) rfl ⟨Nat.le_of_ble_eq_true rfl, Nat.le_of_ble_eq_true rfl⟩ hM h1 rfl rfl hM hl.1 (Nat.le_of_ble_eq_true rfl) ⟨Nat.le_of_ble_eq_true rfl, Nat.le_of_ble_eq_true rfl⟩ rfl dX4_count_61 ?_
    exact r_i hx hb hr hlocks dX4_count_64 (rfl)
  · refine lv_tableIn (off := 64) (tgt := 65) hx hb dX4_count_1 (by decide) (by decide) (by decide) (by decide) ?_
    refine lv_aload_n hx hb dX4_count_65 rfl (lv_at hl 0 rfl) ?_
    refine m_get hx hb hts in_X4_count_X4 hown hK hM (CW.x hw) rfl 4 (by decide) (by decide +kernel) rfl dX4_count_66 ?_
    exact r_i hx hb hr hlocks dX4_count_69 (rfl)
  · refine lv_tableIn (off := 69) (tgt := 70) hx hb dX4_count_1 (by decide) (by decide) (by decide) (by decide) ?_
    refine lv_aload_n hx hb dX4_count_70 rfl (lv_at hl 0 rfl) ?_
    refine m_get hx hb hts in_X4_count_X4 hown hK hM (CW.x hw) rfl 1 (by decide) (by decide +kernel) rfl dX4_count_71 ?_
    refine m_cV 0 [] [] hx hb hml hown hts hK (c_size l E A g M (CW.LG hw)) gX4_count_Jx4a65c_size_8abf5 rfl rfl rfl (by decide +kernel) rfl ⟨Nat.le_of_ble_eq_true rfl, Nat.le_of_ble_eq_true rfl⟩ hM h2 rfl rfl hM hl.1 (Nat.le_of_ble_eq_true rfl) ⟨Nat.le_of_ble_eq_true rfl, Nat.le_of_ble_eq_true rfl⟩ rfl dX4_count_74 ?_
    exact r_i hx hb hr hlocks dX4_count_77 (rfl)
  · refine lv_tableIn (off := 77) (tgt := 78) hx hb dX4_count_1 (by decide) (by decide) (by decide) (by decide) ?_
    refine lv_aload_n hx hb dX4_count_78 rfl (lv_at hl 0 rfl) ?_
    refine m_get hx hb hts in_X4_count_X4 hown hK hM (CW.x hw) rfl 2 (by decide) (by decide +kernel) rfl dX4_count_79 ?_
    refine m_cV 0 [] [] hx hb hml hown hts hK (c_size l E A g M (CW.LU hw)) gX4_count_Jx4a65c_size_8abf5 rfl rfl rfl (by decide +kernel) rfl ⟨Nat.le_of_ble_eq_true rfl, Nat.le_of_ble_eq_true rfl⟩ hM h3 rfl rfl hM hl.1 (Nat.le_of_ble_eq_true rfl) ⟨Nat.le_of_ble_eq_true rfl, Nat.le_of_ble_eq_true rfl⟩ rfl dX4_count_82 ?_
    exact r_i hx hb hr hlocks dX4_count_85 (rfl)
  · refine lv_tableIn (off := 85) (tgt := 86) hx hb dX4_count_1 (by decide) (by decide) (by decide) (by decide) ?_
    refine lv_aload_n hx hb dX4_count_86 rfl (lv_at hl 0 rfl) ?_
    refine m_get hx hb hts in_X4_count_X4 hown hK hM (CW.x hw) rfl 6 (by decide) (by decide +kernel) rfl dX4_count_87 ?_
    exact r_i hx hb hr hlocks dX4_count_90 (rfl)
  · refine lv_tableIn (off := 90) (tgt := 91) hx hb dX4_count_1 (by decide) (by decide) (by decide) (by decide) ?_
    refine lv_aload_n hx hb dX4_count_91 rfl (lv_at hl 0 rfl) ?_
    refine m_cV 0 [] [] hx hb hml hown hts hK (c_bidsWritten l E A g M σ hv hw hp ) gX4_count_X4_bidsWritten rfl rfl rfl (by decide +kernel) rfl ⟨Nat.le_of_ble_eq_true rfl, Nat.le_of_ble_eq_true rfl⟩ hM (CW.x hw) rfl rfl hM hl.1 (Nat.le_of_ble_eq_true rfl) ⟨Nat.le_of_ble_eq_true rfl, Nat.le_of_ble_eq_true rfl⟩ rfl dX4_count_92 ?_
    exact r_i hx hb hr hlocks dX4_count_95 (rfl)
  · refine lv_tableIn (off := 95) (tgt := 96) hx hb dX4_count_1 (by decide) (by decide) (by decide) (by decide) ?_
    refine lv_aload_n hx hb dX4_count_96 rfl (lv_at hl 0 rfl) ?_
    refine m_get hx hb hts in_X4_count_X4 hown hK hM (CW.x hw) rfl 7 (by decide) (by decide +kernel) rfl dX4_count_97 ?_
    exact r_i hx hb hr hlocks dX4_count_100 (rfl)
  · refine lv_tableIn (off := 100) (tgt := 101) hx hb dX4_count_1 (by decide) (by decide) (by decide) (by decide) ?_
    refine lv_aload_n hx hb dX4_count_101 rfl (lv_at hl 0 rfl) ?_
    refine m_cV 0 [] [] hx hb hml hown hts hK (c_roomsToLet l E A g M σ hv hw hp ) gX4_count_X4_roomsToLet rfl rfl rfl (by decide +kernel) rfl ⟨Nat.le_of_ble_eq_true rfl, Nat.le_of_ble_eq_true rfl⟩ hM (CW.x hw) rfl rfl hM hl.1 (Nat.le_of_ble_eq_true rfl) ⟨Nat.le_of_ble_eq_true rfl, Nat.le_of_ble_eq_true rfl⟩ rfl dX4_count_102 ?_
    exact r_i hx hb hr hlocks dX4_count_105 (rfl)
theorem in_X4_guest_X1 : ∀ w ∈ u_ws RX1 TX1 7, w ∈ wsX4_guest := by decide +kernel
theorem in_X4_guest_X4 : ∀ w ∈ u_ws RX4 TX4 8, w ∈ wsX4_guest := by decide +kernel
set_option maxHeartbeats 4000000 in
set_option maxRecDepth 100000 in
theorem c_guest (l : Launch) (E : gE) (A : Nat → Prop) (g : Nat → Nat) (M : gM) (σ : Sg) (hv : VS σ) (hw : CW E g M σ) (hp : PW E M σ) (u w : Nat) (hu : u < kU σ) (hw9 : w < 7) : Met l yX4_guest wsX4_guest ({ frames := 3, cells := 0, slots := 0, locals := 64 } : Room) (Pm E [.ref (g 0), .int (nI u), .int (nI w)] (mP E A g M)) (k2_QcV (.int (sGu σ u w))) 0 0 (fun _ => False) := by
  refine m_entry (by decide) rfl (Nat.le_of_ble_eq_true rfl) ?_
  intro p e s m args below meth c hx hb hr hml hts hown hlocks hin hM hK ls hl
  have hl : lv_has ls 4 [(0, .ref (g 0)), (1, .int (nI u)), (2, .int (nI w))] := hl
  have hown : s.vm.findClass RX4 = some m.cls := hown
  obtain ⟨⟨hR9, hG9, hU9, hD9⟩, -⟩ := id hv
  obtain ⟨mc1, el1, h1, -⟩ := CW.LR hw
  obtain ⟨mc2, el2, h2, -⟩ := CW.LG hw
  obtain ⟨mc3, el3, h3, -⟩ := CW.LU hw
  refine lv_aload_n hx hb dX4_guest_0 rfl (lv_at hl 0 rfl) ?_
  refine lv_iload_n hx hb dX4_guest_1 rfl (lv_at hl 1 rfl) ?_
  refine m_cV 1 [.int (nI u)] [] hx hb hml hown hts hK (c_isGuestY l E A g M σ hv hw u (by omega)) gX4_guest_X4_isGuest rfl rfl rfl (by decide +kernel) rfl ⟨Nat.le_of_ble_eq_true rfl, Nat.le_of_ble_eq_true rfl⟩ hM (CW.x hw) rfl rfl hM hl.1 (Nat.le_of_ble_eq_true rfl) ⟨Nat.le_of_ble_eq_true rfl, Nat.le_of_ble_eq_true rfl⟩ rfl dX4_guest_2 ?_
  refine lv_if_ne (tgt := 18) hx hb dX4_guest_5 (by decide) (fun c9 => ?_) (fun c9 => absurd c9 (by decide))
  refine lv_aload_n hx hb dX4_guest_18 rfl (lv_at hl 0 rfl) ?_
  refine m_get hx hb hts in_X4_guest_X4 hown hK hM (CW.x hw) rfl 2 (by decide) (by decide +kernel) rfl dX4_guest_19 ?_
  refine lv_iload_n hx hb dX4_guest_22 rfl (lv_at hl 1 rfl) ?_
  refine m_cV 1 [.int (nI u)] [] hx hb hml hown hts hK (c_get l E A g M (CW.LU hw) (by omega) u (by omega)) gX4_guest_Jx4a65c_get_915e3 rfl rfl rfl (by decide +kernel) rfl ⟨Nat.le_of_ble_eq_true rfl, Nat.le_of_ble_eq_true rfl⟩ hM h3 rfl rfl hM hl.1 (Nat.le_of_ble_eq_true rfl) ⟨Nat.le_of_ble_eq_true rfl, Nat.le_of_ble_eq_true rfl⟩ rfl dX4_guest_23 ?_
  refine m_cast (ci := 2) hx hb hts hown (by decide +kernel) hK hM (CW.guest hw (i := u) (by omega)) rfl dX4_guest_26 ?_
  refine lv_astore_n (lv' := [(3, .ref (g (400 + u))), (0, .ref (g 0)), (1, .int (nI u)), (2, .int (nI w))]) hx hb dX4_guest_29 rfl hl (by decide) rfl (fun ls hl => ?_)
  refine lv_iload_n hx hb dX4_guest_30 rfl (lv_at hl 3 rfl) ?_
  rcases (show w = 0 ∨ w = 1 ∨ w = 2 ∨ w = 3 ∨ w = 4 ∨ w = 5 ∨ w = 6 by omega) with rfl | rfl | rfl | rfl | rfl | rfl | rfl
  · refine lv_tableIn (off := 41) (tgt := 72) hx hb dX4_guest_31 (by decide) (by decide) (by decide) (by decide) ?_
    refine lv_aload_n hx hb dX4_guest_72 rfl (lv_at hl 0 rfl) ?_
    refine m_get hx hb hts in_X4_guest_X1 hown hK hM (CW.guest hw (i := u) (by omega)) rfl 1 (by decide) (by decide +kernel) rfl dX4_guest_73 ?_
    exact r_i hx hb hr hlocks dX4_guest_76 (rfl)
  · refine lv_tableIn (off := 46) (tgt := 77) hx hb dX4_guest_31 (by decide) (by decide) (by decide) (by decide) ?_
    refine lv_aload_n hx hb dX4_guest_77 rfl (lv_at hl 0 rfl) ?_
    refine m_get hx hb hts in_X4_guest_X1 hown hK hM (CW.guest hw (i := u) (by omega)) rfl 0 (by decide) (by decide +kernel) rfl dX4_guest_78 ?_
    exact r_i hx hb hr hlocks dX4_guest_81 (rfl)
  · refine lv_tableIn (off := 51) (tgt := 82) hx hb dX4_guest_31 (by decide) (by decide) (by decide) (by decide) ?_
    refine lv_aload_n hx hb dX4_guest_82 rfl (lv_at hl 0 rfl) ?_
    refine m_get hx hb hts in_X4_guest_X1 hown hK hM (CW.guest hw (i := u) (by omega)) rfl 2 (by decide) (by decide +kernel) rfl dX4_guest_83 ?_
    exact r_i hx hb hr hlocks dX4_guest_86 (rfl)
  · refine lv_tableIn (off := 56) (tgt := 87) hx hb dX4_guest_31 (by decide) (by decide) (by decide) (by decide) ?_
    refine lv_aload_n hx hb dX4_guest_87 rfl (lv_at hl 0 rfl) ?_
    refine m_get hx hb hts in_X4_guest_X1 hown hK hM (CW.guest hw (i := u) (by omega)) rfl 3 (by decide) (by decide +kernel) rfl dX4_guest_88 ?_
    exact r_i hx hb hr hlocks dX4_guest_91 (rfl)
  · refine lv_tableIn (off := 61) (tgt := 92) hx hb dX4_guest_31 (by decide) (by decide) (by decide) (by decide) ?_
    refine lv_aload_n hx hb dX4_guest_92 rfl (lv_at hl 0 rfl) ?_
    refine m_get hx hb hts in_X4_guest_X1 hown hK hM (CW.guest hw (i := u) (by omega)) rfl 4 (by decide) (by decide +kernel) rfl dX4_guest_93 ?_
    exact r_i hx hb hr hlocks dX4_guest_96 (rfl)
  · refine lv_tableIn (off := 66) (tgt := 97) hx hb dX4_guest_31 (by decide) (by decide) (by decide) (by decide) ?_
    refine lv_aload_n hx hb dX4_guest_97 rfl (lv_at hl 0 rfl) ?_
    refine m_get hx hb hts in_X4_guest_X1 hown hK hM (CW.guest hw (i := u) (by omega)) rfl 5 (by decide) (by decide +kernel) rfl dX4_guest_98 ?_
    exact r_i hx hb hr hlocks dX4_guest_101 (rfl)
  · refine lv_tableIn (off := 71) (tgt := 102) hx hb dX4_guest_31 (by decide) (by decide) (by decide) (by decide) ?_
    refine lv_aload_n hx hb dX4_guest_102 rfl (lv_at hl 0 rfl) ?_
    refine m_get hx hb hts in_X4_guest_X1 hown hK hM (CW.guest hw (i := u) (by omega)) rfl 6 (by decide) (by decide +kernel) rfl dX4_guest_103 ?_
    exact r_i hx hb hr hlocks dX4_guest_106 (rfl)
def dF (f : Nat → Int32) (d : Int64) : Nat → Int64
  | 0 => d
  | n + 1 => dF f d n * 31 + (f n).toInt64
def drm (σ : Sg) (k : Nat) (d : Int64) : Int64 := dF (wnT σ k) (dF (rmT σ k) d 6) 3 * 31 + (hON σ (nI k) (-1) 12).toInt64
def dRm (σ : Sg) : Nat → Int64
  | 0 => dF (ctT σ) 773 9
  | k + 1 => drm σ k (dRm σ k)
def dGh (σ : Sg) : Nat → Int64
  | 0 => dRm σ (kR σ)
  | i + 1 => dF (plc σ i) (dGh σ i) 12
def dGu (σ : Sg) : Nat → Int64
  | 0 => dGh σ (kG σ)
  | i + 1 => dF (sGu σ i) (dGu σ i) 7
set_option maxHeartbeats 4000000 in
set_option maxRecDepth 100000 in
theorem c_digestRoom (l : Launch) (E : gE) (A : Nat → Prop) (g : Nat → Nat) (M : gM) (σ : Sg) (hv : VS σ) (hw : CW E g M σ) (hp : PW E M σ) (d0 : Int64) (k : Nat) (hk : k < kR σ) : Met l yX4_digestRoom wsX4_digestRoom ({ frames := 6, cells := 0, slots := 0, locals := 136 } : Room) (Pm E [.ref (g 0), .long d0, .int (nI k)] (mP E A g M)) (k2_QcV (.long (drm σ k d0))) 0 0 (fun _ => False) := by
  refine m_entry (by decide) rfl (Nat.le_of_ble_eq_true rfl) ?_
  intro p e s m args below meth c hx hb hr hml hts hown hlocks hin hM hK ls hl
  have hl : lv_has ls 7 [(0, .ref (g 0)), (1, .long d0), (3, .int (nI k))] := hl
  have hown : s.vm.findClass RX4 = some m.cls := hown
  obtain ⟨⟨hR9, hG9, hU9, hD9⟩, -⟩ := id hv
  obtain ⟨mc1, el1, h1, -⟩ := CW.LR hw
  obtain ⟨mc2, el2, h2, -⟩ := CW.LG hw
  obtain ⟨mc3, el3, h3, -⟩ := CW.LU hw
  refine lv_lload_n hx hb dX4_digestRoom_0 rfl (lv_at hl 1 rfl) ?_
  refine lv_lstore (lv' := [(4, .long d0), (0, .ref (g 0)), (1, .long d0), (3, .int (nI k))]) hx hb dX4_digestRoom_1 hl (by decide) rfl (fun ls hl => ?_)
  refine lv_iconst (v := 0) hx hb dX4_digestRoom_3 (by decide) ?_
  refine lv_istore (lv' := [(6, .int 0), (4, .long d0), (0, .ref (g 0)), (1, .long d0), (3, .int (nI k))]) hx hb dX4_digestRoom_4 hl (by decide) rfl (fun ls hl => ?_)
  have lp6 : ∀ (n6 i : Nat), n6 + i = 6 → ∀ x4 : Int64, x4 = dF (rmT σ k) d0 i → ∀ ls : Array Slot, lv_has ls 7 [(6, .int (nI i)), (4, .long x4), (0, .ref (g 0)), (1, .long d0), (3, .int (nI k))] → W p l e ({ frames := 6, cells := 0, slots := 0, locals := 136 } : Room) s m args below meth c s.heap [] 0 0 (MQ below (k2_QcV (.long (drm σ k d0))) args s 0 0 (fun _ => False)) (F0 m 6 ls []) := by
    intro n6
    induction n6 with
    | zero =>
      intro i hi6 x4 ex4 ls hl
      obtain rfl : 6 = i := by omega
      refine lv_iload hx hb dX4_digestRoom_6 (lv_at hl 0 rfl) ?_
      refine lv_bipush (v := 6) hx hb dX4_digestRoom_8 (by decide) ?_
      refine lv_icmp_ge (tgt := 36) hx hb dX4_digestRoom_10 (by decide) (fun c10 => ?_) (fun c9 => absurd (Int32.le_refl _) c9)
      refine lv_iconst (v := 0) hx hb dX4_digestRoom_36 (by decide) ?_
      refine lv_istore (lv' := [(6, .int 0), (4, .long x4), (0, .ref (g 0)), (1, .long d0), (3, .int (nI k))]) hx hb dX4_digestRoom_37 hl (by decide) rfl (fun ls hl => ?_)
      have lp39 : ∀ (n39 i : Nat), n39 + i = 3 → ∀ y4 : Int64, y4 = dF (wnT σ k) (dF (rmT σ k) d0 6) i → ∀ ls : Array Slot, lv_has ls 7 [(6, .int (nI i)), (4, .long y4), (0, .ref (g 0)), (1, .long d0), (3, .int (nI k))] → W p l e ({ frames := 6, cells := 0, slots := 0, locals := 136 } : Room) s m args below meth c s.heap [] 0 0 (MQ below (k2_QcV (.long (drm σ k d0))) args s 0 0 (fun _ => False)) (F0 m 39 ls []) := by
        intro n39
        induction n39 with
        | zero =>
          intro i hi39 y4 ey4 ls hl
          obtain rfl : 3 = i := by omega
          refine lv_iload hx hb dX4_digestRoom_39 (lv_at hl 0 rfl) ?_
          refine lv_iconst (v := 3) hx hb dX4_digestRoom_41 (by decide) ?_
          refine lv_icmp_ge (tgt := 68) hx hb dX4_digestRoom_42 (by decide) (fun c42 => ?_) (fun c9 => absurd (Int32.le_refl _) c9)
          refine lv_lload hx hb dX4_digestRoom_68 (lv_at hl 1 rfl) ?_
          refine lv_ldc2 (v := 31) hx hb hown (hts _ (by decide +kernel)) dX4_digestRoom_70 ?_
          refine lv_lmul hx hb dX4_digestRoom_73 ?_
          refine lv_aload_n hx hb dX4_digestRoom_74 rfl (lv_at hl 2 rfl) ?_
          refine lv_iload_n hx hb dX4_digestRoom_75 rfl (lv_at hl 4 rfl) ?_
          refine lv_iconst (v := (-1)) hx hb dX4_digestRoom_76 (by decide) ?_
          refine m_cV 2 [.int (nI k), .int (-1)] [.long (y4 * 31)] hx hb hml hown hts hK (c_haunting1 l E A g M σ hv hw hp k (by omega)) gX4_digestRoom_X4_haunting rfl rfl rfl (by decide +kernel) rfl ⟨Nat.le_of_ble_eq_true rfl, Nat.le_of_ble_eq_true rfl⟩ hM (CW.x hw) rfl rfl hM hl.1 (Nat.le_of_ble_eq_true rfl) ⟨Nat.le_of_ble_eq_true rfl, Nat.le_of_ble_eq_true rfl⟩ rfl dX4_digestRoom_77 ?_
          refine lv_i2l hx hb dX4_digestRoom_80 rfl ?_
          refine lv_ladd hx hb dX4_digestRoom_81 ?_
          exact r_l hx hb hr hlocks dX4_digestRoom_82 (by rw [ey4]; rfl)
        | succ n39 ih39 =>
          intro i hi39 y4 ey4 ls hl
          have hlt39 : i < 3 := by omega
          refine lv_iload hx hb dX4_digestRoom_39 (lv_at hl 0 rfl) ?_
          refine lv_iconst (v := 3) hx hb dX4_digestRoom_41 (by decide) ?_
          refine lv_icmp_ge (tgt := 68) hx hb dX4_digestRoom_42 (by decide) (fun c9 => absurd c9 (nI_ge (b := 3) hlt39 (by omega))) (fun c42 => ?_)
          refine lv_lload hx hb dX4_digestRoom_45 (lv_at hl 1 rfl) ?_
          refine lv_ldc2 (v := 31) hx hb hown (hts _ (by decide +kernel)) dX4_digestRoom_47 ?_
          refine lv_lmul hx hb dX4_digestRoom_50 ?_
          refine lv_aload_n hx hb dX4_digestRoom_51 rfl (lv_at hl 2 rfl) ?_
          refine lv_iload_n hx hb dX4_digestRoom_52 rfl (lv_at hl 4 rfl) ?_
          refine lv_iload hx hb dX4_digestRoom_53 (lv_at hl 0 rfl) ?_
          refine m_cV 2 [.int (nI k), .int (nI i)] [.long (y4 * 31)] hx hb hml hown hts hK (c_wins l E A g M σ hv hw hp k i (by omega) (by omega)) gX4_digestRoom_X4_wins rfl rfl rfl (by decide +kernel) rfl ⟨Nat.le_of_ble_eq_true rfl, Nat.le_of_ble_eq_true rfl⟩ hM (CW.x hw) rfl rfl hM hl.1 (Nat.le_of_ble_eq_true rfl) ⟨Nat.le_of_ble_eq_true rfl, Nat.le_of_ble_eq_true rfl⟩ rfl dX4_digestRoom_55 ?_
          refine lv_i2l hx hb dX4_digestRoom_58 rfl ?_
          refine lv_ladd hx hb dX4_digestRoom_59 ?_
          refine lv_lstore (lv' := [(4, .long ((y4 * 31) + ((wnT σ k i).toInt64))), (6, .int (nI i)), (0, .ref (g 0)), (1, .long d0), (3, .int (nI k))]) hx hb dX4_digestRoom_60 hl (by decide) rfl (fun ls hl => ?_)
          refine lv_iinc (v := nI (i + 1)) (lv' := [(6, .int (nI (i + 1))), (4, .long ((y4 * 31) + ((wnT σ k i).toInt64))), (0, .ref (g 0)), (1, .long d0), (3, .int (nI k))]) hx hb dX4_digestRoom_62 hl (k := 1) rfl (m_inc _) (by decide) rfl (fun ls hl => ?_)
          refine lv_goto (tgt := 39) hx hb dX4_digestRoom_65 (by decide) ?_
          exact ih39 (i + 1) (by omega) _ (by rw [ey4]; rfl) ls (lv_sub hl [0, 1, 2, 3, 4] rfl)
      exact lp39 (3) 0 (by omega) _ (ex4) ls (lv_sub hl [0, 1, 2, 3, 4] rfl)
    | succ n6 ih6 =>
      intro i hi6 x4 ex4 ls hl
      have hlt6 : i < 6 := by omega
      refine lv_iload hx hb dX4_digestRoom_6 (lv_at hl 0 rfl) ?_
      refine lv_bipush (v := 6) hx hb dX4_digestRoom_8 (by decide) ?_
      refine lv_icmp_ge (tgt := 36) hx hb dX4_digestRoom_10 (by decide) (fun c9 => absurd c9 (nI_ge (b := 6) hlt6 (by omega))) (fun c10 => ?_)
      refine lv_lload hx hb dX4_digestRoom_13 (lv_at hl 1 rfl) ?_
      refine lv_ldc2 (v := 31) hx hb hown (hts _ (by decide +kernel)) dX4_digestRoom_15 ?_
      refine lv_lmul hx hb dX4_digestRoom_18 ?_
      refine lv_aload_n hx hb dX4_digestRoom_19 rfl (lv_at hl 2 rfl) ?_
      refine lv_iload_n hx hb dX4_digestRoom_20 rfl (lv_at hl 4 rfl) ?_
      refine lv_iload hx hb dX4_digestRoom_21 (lv_at hl 0 rfl) ?_
      refine m_cV 2 [.int (nI k), .int (nI i)] [.long (x4 * 31)] hx hb hml hown hts hK (c_room l E A g M σ hv hw hp k i (by omega) (by omega)) gX4_digestRoom_X4_room rfl rfl rfl (by decide +kernel) rfl ⟨Nat.le_of_ble_eq_true rfl, Nat.le_of_ble_eq_true rfl⟩ hM (CW.x hw) rfl rfl hM hl.1 (Nat.le_of_ble_eq_true rfl) ⟨Nat.le_of_ble_eq_true rfl, Nat.le_of_ble_eq_true rfl⟩ rfl dX4_digestRoom_23 ?_
      refine lv_i2l hx hb dX4_digestRoom_26 rfl ?_
      refine lv_ladd hx hb dX4_digestRoom_27 ?_
      refine lv_lstore (lv' := [(4, .long ((x4 * 31) + ((rmT σ k i).toInt64))), (6, .int (nI i)), (0, .ref (g 0)), (1, .long d0), (3, .int (nI k))]) hx hb dX4_digestRoom_28 hl (by decide) rfl (fun ls hl => ?_)
      refine lv_iinc (v := nI (i + 1)) (lv' := [(6, .int (nI (i + 1))), (4, .long ((x4 * 31) + ((rmT σ k i).toInt64))), (0, .ref (g 0)), (1, .long d0), (3, .int (nI k))]) hx hb dX4_digestRoom_30 hl (k := 1) rfl (m_inc _) (by decide) rfl (fun ls hl => ?_)
      refine lv_goto (tgt := 6) hx hb dX4_digestRoom_33 (by decide) ?_
      exact ih6 (i + 1) (by omega) _ (by rw [ex4]; rfl) ls (lv_sub hl [0, 1, 2, 3, 4] rfl)
  exact lp6 (6) 0 (by omega) _ (rfl) ls (lv_sub hl [0, 1, 2, 3, 4] rfl)
theorem in_X4_digest_X4 : ∀ w ∈ u_ws RX4 TX4 8, w ∈ wsX4_digest := by decide +kernel
set_option maxHeartbeats 4000000 in
set_option maxRecDepth 100000 in
theorem c_digest (l : Launch) (E : gE) (A : Nat → Prop) (g : Nat → Nat) (M : gM) (σ : Sg) (hv : VS σ) (hw : CW E g M σ) (hp : PW E M σ)  : Met l yX4_digest wsX4_digest ({ frames := 7, cells := 0, slots := 0, locals := 162 } : Room) (Pm E [.ref (g 0)] (mP E A g M)) (k2_QcV (.long (dGu σ (kU σ)))) 0 0 (fun _ => False) := by
  refine m_entry (by decide) rfl (Nat.le_of_ble_eq_true rfl) ?_
  intro p e s m args below meth c hx hb hr hml hts hown hlocks hin hM hK ls hl
  have hl : lv_has ls 5 [(0, .ref (g 0))] := hl
  have hown : s.vm.findClass RX4 = some m.cls := hown
  obtain ⟨⟨hR9, hG9, hU9, hD9⟩, -⟩ := id hv
  obtain ⟨mc1, el1, h1, -⟩ := CW.LR hw
  obtain ⟨mc2, el2, h2, -⟩ := CW.LG hw
  obtain ⟨mc3, el3, h3, -⟩ := CW.LU hw
  refine lv_ldc2 (v := 773) hx hb hown (hts _ (by decide +kernel)) dX4_digest_0 ?_
  refine lv_lstore_n (lv' := [(1, .long 773), (0, .ref (g 0))]) hx hb dX4_digest_3 rfl hl (by decide) rfl (fun ls hl => ?_)
  refine lv_iconst (v := 0) hx hb dX4_digest_4 (by decide) ?_
  refine lv_istore_n (lv' := [(3, .int 0), (1, .long 773), (0, .ref (g 0))]) hx hb dX4_digest_5 rfl hl (by decide) rfl (fun ls hl => ?_)
  have lp6 : ∀ (n6 i : Nat), n6 + i = 9 → ∀ x1 : Int64, x1 = dF (ctT σ) 773 i → ∀ ls : Array Slot, lv_has ls 5 [(3, .int (nI i)), (1, .long x1), (0, .ref (g 0))] → W p l e ({ frames := 7, cells := 0, slots := 0, locals := 162 } : Room) s m args below meth c s.heap [] 0 0 (MQ below (k2_QcV (.long (dGu σ (kU σ)))) args s 0 0 (fun _ => False)) (F0 m 6 ls []) := by
    intro n6
    induction n6 with
    | zero =>
      intro i hi6 x1 ex1 ls hl
      obtain rfl : 9 = i := by omega
      refine lv_iload_n hx hb dX4_digest_6 rfl (lv_at hl 0 rfl) ?_
      refine lv_bipush (v := 9) hx hb dX4_digest_7 (by decide) ?_
      refine lv_icmp_ge (tgt := 31) hx hb dX4_digest_9 (by decide) (fun c9 => ?_) (fun c9 => absurd (Int32.le_refl _) c9)
      refine lv_iconst (v := 0) hx hb dX4_digest_31 (by decide) ?_
      refine lv_istore_n (lv' := [(3, .int 0), (1, .long x1), (0, .ref (g 0))]) hx hb dX4_digest_32 rfl hl (by decide) rfl (fun ls hl => ?_)
      have lp33 : ∀ (n33 i : Nat), n33 + i = kR σ → ∀ y1 : Int64, y1 = dRm σ i → ∀ ls : Array Slot, lv_has ls 5 [(3, .int (nI i)), (1, .long y1), (0, .ref (g 0))] → W p l e ({ frames := 7, cells := 0, slots := 0, locals := 162 } : Room) s m args below meth c s.heap [] 0 0 (MQ below (k2_QcV (.long (dGu σ (kU σ)))) args s 0 0 (fun _ => False)) (F0 m 33 ls []) := by
        intro n33
        induction n33 with
        | zero =>
          intro i hi33 y1 ey1 ls hl
          obtain rfl : kR σ = i := by omega
          refine lv_iload_n hx hb dX4_digest_33 rfl (lv_at hl 0 rfl) ?_
          refine lv_aload_n hx hb dX4_digest_34 rfl (lv_at hl 2 rfl) ?_
          refine m_get hx hb hts in_X4_digest_X4 hown hK hM (CW.x hw) rfl 0 (by decide) (by decide +kernel) rfl dX4_digest_35 ?_
          refine m_cV 0 [] [.int (nI (kR σ))] hx hb hml hown hts hK (c_size l E A g M (CW.LR hw)) gX4_digest_Jx4a65c_size_8abf5 rfl rfl rfl (by decide +kernel) rfl ⟨Nat.le_of_ble_eq_true rfl, Nat.le_of_ble_eq_true rfl⟩ hM h1 rfl rfl hM hl.1 (Nat.le_of_ble_eq_true rfl) ⟨Nat.le_of_ble_eq_true rfl, Nat.le_of_ble_eq_true rfl⟩ rfl dX4_digest_38 ?_
          refine lv_icmp_ge (tgt := 57) hx hb dX4_digest_41 (by decide) (fun c41 => ?_) (fun c9 => absurd (Int32.le_refl _) c9)
          refine lv_iconst (v := 0) hx hb dX4_digest_57 (by decide) ?_
          refine lv_istore_n (lv' := [(3, .int 0), (1, .long y1), (0, .ref (g 0))]) hx hb dX4_digest_58 rfl hl (by decide) rfl (fun ls hl => ?_)
          have lp59 : ∀ (n59 i : Nat), n59 + i = kG σ → ∀ z1 : Int64, z1 = dGh σ i → ∀ ls : Array Slot, lv_has ls 5 [(3, .int (nI i)), (1, .long z1), (0, .ref (g 0))] → W p l e ({ frames := 7, cells := 0, slots := 0, locals := 162 } : Room) s m args below meth c s.heap [] 0 0 (MQ below (k2_QcV (.long (dGu σ (kU σ)))) args s 0 0 (fun _ => False)) (F0 m 59 ls []) := by
            intro n59
            induction n59 with
            | zero =>
              intro i hi59 z1 ez1 ls hl
              obtain rfl : kG σ = i := by omega
              refine lv_iload_n hx hb dX4_digest_59 rfl (lv_at hl 0 rfl) ?_
              refine lv_aload_n hx hb dX4_digest_60 rfl (lv_at hl 2 rfl) ?_
              refine m_get hx hb hts in_X4_digest_X4 hown hK hM (CW.x hw) rfl 1 (by decide) (by decide +kernel) rfl dX4_digest_61 ?_
              refine m_cV 0 [] [.int (nI (kG σ))] hx hb hml hown hts hK (c_size l E A g M (CW.LG hw)) gX4_digest_Jx4a65c_size_8abf5 rfl rfl rfl (by decide +kernel) rfl ⟨Nat.le_of_ble_eq_true rfl, Nat.le_of_ble_eq_true rfl⟩ hM h2 rfl rfl hM hl.1 (Nat.le_of_ble_eq_true rfl) ⟨Nat.le_of_ble_eq_true rfl, Nat.le_of_ble_eq_true rfl⟩ rfl dX4_digest_64 ?_
              refine lv_icmp_ge (tgt := 107) hx hb dX4_digest_67 (by decide) (fun c67 => ?_) (fun c9 => absurd (Int32.le_refl _) c9)
              refine lv_iconst (v := 0) hx hb dX4_digest_107 (by decide) ?_
              refine lv_istore_n (lv' := [(3, .int 0), (1, .long z1), (0, .ref (g 0))]) hx hb dX4_digest_108 rfl hl (by decide) rfl (fun ls hl => ?_)
              have lp109 : ∀ (n109 i : Nat), n109 + i = kU σ → ∀ u1 : Int64, u1 = dGu σ i → ∀ ls : Array Slot, lv_has ls 5 [(3, .int (nI i)), (1, .long u1), (0, .ref (g 0))] → W p l e ({ frames := 7, cells := 0, slots := 0, locals := 162 } : Room) s m args below meth c s.heap [] 0 0 (MQ below (k2_QcV (.long (dGu σ (kU σ)))) args s 0 0 (fun _ => False)) (F0 m 109 ls []) := by
                intro n109
                induction n109 with
                | zero =>
                  intro i hi109 u1 eu1 ls hl
                  obtain rfl : kU σ = i := by omega
                  refine lv_iload_n hx hb dX4_digest_109 rfl (lv_at hl 0 rfl) ?_
                  refine lv_aload_n hx hb dX4_digest_110 rfl (lv_at hl 2 rfl) ?_
                  refine m_get hx hb hts in_X4_digest_X4 hown hK hM (CW.x hw) rfl 2 (by decide) (by decide +kernel) rfl dX4_digest_111 ?_
                  refine m_cV 0 [] [.int (nI (kU σ))] hx hb hml hown hts hK (c_size l E A g M (CW.LU hw)) gX4_digest_Jx4a65c_size_8abf5 rfl rfl rfl (by decide +kernel) rfl ⟨Nat.le_of_ble_eq_true rfl, Nat.le_of_ble_eq_true rfl⟩ hM h3 rfl rfl hM hl.1 (Nat.le_of_ble_eq_true rfl) ⟨Nat.le_of_ble_eq_true rfl, Nat.le_of_ble_eq_true rfl⟩ rfl dX4_digest_114 ?_
                  refine lv_icmp_ge (tgt := 157) hx hb dX4_digest_117 (by decide) (fun c117 => ?_) (fun c9 => absurd (Int32.le_refl _) c9)
                  refine lv_lload_n hx hb dX4_digest_157 rfl (lv_at hl 1 rfl) ?_
                  exact r_l hx hb hr hlocks dX4_digest_158 (by first | rfl | assumption)
                | succ n109 ih109 =>
                  intro i hi109 u1 eu1 ls hl
                  have hlt109 : i < kU σ := by omega
                  refine lv_iload_n hx hb dX4_digest_109 rfl (lv_at hl 0 rfl) ?_
                  refine lv_aload_n hx hb dX4_digest_110 rfl (lv_at hl 2 rfl) ?_
                  refine m_get hx hb hts in_X4_digest_X4 hown hK hM (CW.x hw) rfl 2 (by decide) (by decide +kernel) rfl dX4_digest_111 ?_
                  refine m_cV 0 [] [.int (nI i)] hx hb hml hown hts hK (c_size l E A g M (CW.LU hw)) gX4_digest_Jx4a65c_size_8abf5 rfl rfl rfl (by decide +kernel) rfl ⟨Nat.le_of_ble_eq_true rfl, Nat.le_of_ble_eq_true rfl⟩ hM h3 rfl rfl hM hl.1 (Nat.le_of_ble_eq_true rfl) ⟨Nat.le_of_ble_eq_true rfl, Nat.le_of_ble_eq_true rfl⟩ rfl dX4_digest_114 ?_
                  refine lv_icmp_ge (tgt := 157) hx hb dX4_digest_117 (by decide) (fun c9 => absurd c9 (nI_ge hlt109 (by omega))) (fun c117 => ?_)
                  refine lv_iconst (v := 0) hx hb dX4_digest_120 (by decide) ?_
                  refine lv_istore (lv' := [(4, .int 0), (3, .int (nI i)), (1, .long u1), (0, .ref (g 0))]) hx hb dX4_digest_121 hl (by decide) rfl (fun ls hl => ?_)
                  have lp123 : ∀ (n123 j : Nat), n123 + j = 7 → ∀ v1 : Int64, v1 = dF (sGu σ i) u1 j → ∀ ls : Array Slot, lv_has ls 5 [(4, .int (nI j)), (1, .long v1), (3, .int (nI i)), (0, .ref (g 0))] → W p l e ({ frames := 7, cells := 0, slots := 0, locals := 162 } : Room) s m args below meth c s.heap [] 0 0 (MQ below (k2_QcV (.long (dGu σ (kU σ)))) args s 0 0 (fun _ => False)) (F0 m 123 ls []) := by
                    intro n123
                    induction n123 with
                    | zero =>
                      intro j hi123 v1 ev1 ls hl
                      obtain rfl : 7 = j := by omega
                      refine lv_iload hx hb dX4_digest_123 (lv_at hl 0 rfl) ?_
                      refine lv_bipush (v := 7) hx hb dX4_digest_125 (by decide) ?_
                      refine lv_icmp_ge (tgt := 151) hx hb dX4_digest_127 (by decide) (fun c127 => ?_) (fun c9 => absurd (Int32.le_refl _) c9)
                      refine lv_iinc (v := nI (i + 1)) (lv' := [(3, .int (nI (i + 1))), (4, .int (nI 7)), (1, .long v1), (0, .ref (g 0))]) hx hb dX4_digest_151 hl (k := 2) rfl (m_inc _) (by decide) rfl (fun ls hl => ?_)
                      refine lv_goto (tgt := 109) hx hb dX4_digest_154 (by decide) ?_
                      exact ih109 (i + 1) (by omega) _ (by rw [ev1, eu1]; rfl) ls (lv_sub hl [0, 2, 3] rfl)
                    | succ n123 ih123 =>
                      intro j hi123 v1 ev1 ls hl
                      have hlt123 : j < 7 := by omega
                      refine lv_iload hx hb dX4_digest_123 (lv_at hl 0 rfl) ?_
                      refine lv_bipush (v := 7) hx hb dX4_digest_125 (by decide) ?_
                      refine lv_icmp_ge (tgt := 151) hx hb dX4_digest_127 (by decide) (fun c9 => absurd c9 (nI_ge (b := 7) hlt123 (by omega))) (fun c127 => ?_)
                      refine lv_lload_n hx hb dX4_digest_130 rfl (lv_at hl 1 rfl) ?_
                      refine lv_ldc2 (v := 31) hx hb hown (hts _ (by decide +kernel)) dX4_digest_131 ?_
                      refine lv_lmul hx hb dX4_digest_134 ?_
                      refine lv_aload_n hx hb dX4_digest_135 rfl (lv_at hl 3 rfl) ?_
                      refine lv_iload_n hx hb dX4_digest_136 rfl (lv_at hl 2 rfl) ?_
                      refine lv_iload hx hb dX4_digest_137 (lv_at hl 0 rfl) ?_
                      refine m_cV 2 [.int (nI i), .int (nI j)] [.long (v1 * 31)] hx hb hml hown hts hK (c_guest l E A g M σ hv hw hp i j (by omega) (by omega)) gX4_digest_X4_guest rfl rfl rfl (by decide +kernel) rfl ⟨Nat.le_of_ble_eq_true rfl, Nat.le_of_ble_eq_true rfl⟩ hM (CW.x hw) rfl rfl hM hl.1 (Nat.le_of_ble_eq_true rfl) ⟨Nat.le_of_ble_eq_true rfl, Nat.le_of_ble_eq_true rfl⟩ rfl dX4_digest_139 ?_
                      refine lv_i2l hx hb dX4_digest_142 rfl ?_
                      refine lv_ladd hx hb dX4_digest_143 ?_
                      refine lv_lstore_n (lv' := [(1, .long ((v1 * 31) + ((sGu σ i j).toInt64))), (4, .int (nI j)), (3, .int (nI i)), (0, .ref (g 0))]) hx hb dX4_digest_144 rfl hl (by decide) rfl (fun ls hl => ?_)
                      refine lv_iinc (v := nI (j + 1)) (lv' := [(4, .int (nI (j + 1))), (1, .long ((v1 * 31) + ((sGu σ i j).toInt64))), (3, .int (nI i)), (0, .ref (g 0))]) hx hb dX4_digest_145 hl (k := 1) rfl (m_inc _) (by decide) rfl (fun ls hl => ?_)
                      refine lv_goto (tgt := 123) hx hb dX4_digest_148 (by decide) ?_
                      exact ih123 (j + 1) (by omega) _ (by rw [ev1]; rfl) ls (lv_sub hl [0, 1, 2, 3] rfl)
                  exact lp123 (7) 0 (by omega) _ (rfl) ls (lv_sub hl [0, 2, 1, 3] rfl)
              exact lp109 (kU σ) 0 (by omega) _ (ez1) ls (lv_sub hl [0, 1, 2] rfl)
            | succ n59 ih59 =>
              intro i hi59 z1 ez1 ls hl
              have hlt59 : i < kG σ := by omega
              refine lv_iload_n hx hb dX4_digest_59 rfl (lv_at hl 0 rfl) ?_
              refine lv_aload_n hx hb dX4_digest_60 rfl (lv_at hl 2 rfl) ?_
              refine m_get hx hb hts in_X4_digest_X4 hown hK hM (CW.x hw) rfl 1 (by decide) (by decide +kernel) rfl dX4_digest_61 ?_
              refine m_cV 0 [] [.int (nI i)] hx hb hml hown hts hK (c_size l E A g M (CW.LG hw)) gX4_digest_Jx4a65c_size_8abf5 rfl rfl rfl (by decide +kernel) rfl ⟨Nat.le_of_ble_eq_true rfl, Nat.le_of_ble_eq_true rfl⟩ hM h2 rfl rfl hM hl.1 (Nat.le_of_ble_eq_true rfl) ⟨Nat.le_of_ble_eq_true rfl, Nat.le_of_ble_eq_true rfl⟩ rfl dX4_digest_64 ?_
              refine lv_icmp_ge (tgt := 107) hx hb dX4_digest_67 (by decide) (fun c9 => absurd c9 (nI_ge hlt59 (by omega))) (fun c67 => ?_)
              refine lv_iconst (v := 0) hx hb dX4_digest_70 (by decide) ?_
              refine lv_istore (lv' := [(4, .int 0), (3, .int (nI i)), (1, .long z1), (0, .ref (g 0))]) hx hb dX4_digest_71 hl (by decide) rfl (fun ls hl => ?_)
              have lp73 : ∀ (n73 j : Nat), n73 + j = 12 → ∀ w1 : Int64, w1 = dF (plc σ i) z1 j → ∀ ls : Array Slot, lv_has ls 5 [(4, .int (nI j)), (1, .long w1), (3, .int (nI i)), (0, .ref (g 0))] → W p l e ({ frames := 7, cells := 0, slots := 0, locals := 162 } : Room) s m args below meth c s.heap [] 0 0 (MQ below (k2_QcV (.long (dGu σ (kU σ)))) args s 0 0 (fun _ => False)) (F0 m 73 ls []) := by
                intro n73
                induction n73 with
                | zero =>
                  intro j hi73 w1 ew1 ls hl
                  obtain rfl : 12 = j := by omega
                  refine lv_iload hx hb dX4_digest_73 (lv_at hl 0 rfl) ?_
                  refine lv_bipush (v := 12) hx hb dX4_digest_75 (by decide) ?_
                  refine lv_icmp_ge (tgt := 101) hx hb dX4_digest_77 (by decide) (fun c77 => ?_) (fun c9 => absurd (Int32.le_refl _) c9)
                  refine lv_iinc (v := nI (i + 1)) (lv' := [(3, .int (nI (i + 1))), (4, .int (nI 12)), (1, .long w1), (0, .ref (g 0))]) hx hb dX4_digest_101 hl (k := 2) rfl (m_inc _) (by decide) rfl (fun ls hl => ?_)
                  refine lv_goto (tgt := 59) hx hb dX4_digest_104 (by decide) ?_
                  exact ih59 (i + 1) (by omega) _ (by rw [ew1, ez1]; rfl) ls (lv_sub hl [0, 2, 3] rfl)
                | succ n73 ih73 =>
                  intro j hi73 w1 ew1 ls hl
                  have hlt73 : j < 12 := by omega
                  refine lv_iload hx hb dX4_digest_73 (lv_at hl 0 rfl) ?_
                  refine lv_bipush (v := 12) hx hb dX4_digest_75 (by decide) ?_
                  refine lv_icmp_ge (tgt := 101) hx hb dX4_digest_77 (by decide) (fun c9 => absurd c9 (nI_ge (b := 12) hlt73 (by omega))) (fun c77 => ?_)
                  refine lv_lload_n hx hb dX4_digest_80 rfl (lv_at hl 1 rfl) ?_
                  refine lv_ldc2 (v := 31) hx hb hown (hts _ (by decide +kernel)) dX4_digest_81 ?_
                  refine lv_lmul hx hb dX4_digest_84 ?_
                  refine lv_aload_n hx hb dX4_digest_85 rfl (lv_at hl 3 rfl) ?_
                  refine lv_iload_n hx hb dX4_digest_86 rfl (lv_at hl 2 rfl) ?_
                  refine lv_iload hx hb dX4_digest_87 (lv_at hl 0 rfl) ?_
                  refine m_cV 2 [.int (nI i), .int (nI j)] [.long (w1 * 31)] hx hb hml hown hts hK (c_at l E A g M σ hv hw hp i j (by omega) (by omega)) gX4_digest_X4_at rfl rfl rfl (by decide +kernel) rfl ⟨Nat.le_of_ble_eq_true rfl, Nat.le_of_ble_eq_true rfl⟩ hM (CW.x hw) rfl rfl hM hl.1 (Nat.le_of_ble_eq_true rfl) ⟨Nat.le_of_ble_eq_true rfl, Nat.le_of_ble_eq_true rfl⟩ rfl dX4_digest_89 ?_
                  refine lv_i2l hx hb dX4_digest_92 rfl ?_
                  refine lv_ladd hx hb dX4_digest_93 ?_
                  refine lv_lstore_n (lv' := [(1, .long ((w1 * 31) + ((plc σ i j).toInt64))), (4, .int (nI j)), (3, .int (nI i)), (0, .ref (g 0))]) hx hb dX4_digest_94 rfl hl (by decide) rfl (fun ls hl => ?_)
                  refine lv_iinc (v := nI (j + 1)) (lv' := [(4, .int (nI (j + 1))), (1, .long ((w1 * 31) + ((plc σ i j).toInt64))), (3, .int (nI i)), (0, .ref (g 0))]) hx hb dX4_digest_95 hl (k := 1) rfl (m_inc _) (by decide) rfl (fun ls hl => ?_)
                  refine lv_goto (tgt := 73) hx hb dX4_digest_98 (by decide) ?_
                  exact ih73 (j + 1) (by omega) _ (by rw [ew1]; rfl) ls (lv_sub hl [0, 1, 2, 3] rfl)
              exact lp73 (12) 0 (by omega) _ (rfl) ls (lv_sub hl [0, 2, 1, 3] rfl)
          exact lp59 (kG σ) 0 (by omega) _ (ey1) ls (lv_sub hl [0, 1, 2] rfl)
        | succ n33 ih33 =>
          intro i hi33 y1 ey1 ls hl
          have hlt33 : i < kR σ := by omega
          refine lv_iload_n hx hb dX4_digest_33 rfl (lv_at hl 0 rfl) ?_
          refine lv_aload_n hx hb dX4_digest_34 rfl (lv_at hl 2 rfl) ?_
          refine m_get hx hb hts in_X4_digest_X4 hown hK hM (CW.x hw) rfl 0 (by decide) (by decide +kernel) rfl dX4_digest_35 ?_
          refine m_cV 0 [] [.int (nI i)] hx hb hml hown hts hK (c_size l E A g M (CW.LR hw)) gX4_digest_Jx4a65c_size_8abf5 rfl rfl rfl (by decide +kernel) rfl ⟨Nat.le_of_ble_eq_true rfl, Nat.le_of_ble_eq_true rfl⟩ hM h1 rfl rfl hM hl.1 (Nat.le_of_ble_eq_true rfl) ⟨Nat.le_of_ble_eq_true rfl, Nat.le_of_ble_eq_true rfl⟩ rfl dX4_digest_38 ?_
          refine lv_icmp_ge (tgt := 57) hx hb dX4_digest_41 (by decide) (fun c9 => absurd c9 (nI_ge hlt33 (by omega))) (fun c41 => ?_)
          refine lv_aload_n hx hb dX4_digest_44 rfl (lv_at hl 2 rfl) ?_
          refine lv_lload_n hx hb dX4_digest_45 rfl (lv_at hl 1 rfl) ?_
          refine lv_iload_n hx hb dX4_digest_46 rfl (lv_at hl 0 rfl) ?_
          refine m_cV 2 [.long y1, .int (nI i)] [] hx hb hml hown hts hK (c_digestRoom l E A g M σ hv hw hp y1 i (by omega)) gX4_digest_X4_digestRoom rfl rfl rfl (by decide +kernel) rfl ⟨Nat.le_of_ble_eq_true rfl, Nat.le_of_ble_eq_true rfl⟩ hM (CW.x hw) rfl rfl hM hl.1 (Nat.le_of_ble_eq_true rfl) ⟨Nat.le_of_ble_eq_true rfl, Nat.le_of_ble_eq_true rfl⟩ rfl dX4_digest_47 ?_
          refine lv_lstore_n (lv' := [(1, .long (drm σ i y1)), (3, .int (nI i)), (0, .ref (g 0))]) hx hb dX4_digest_50 rfl hl (by decide) rfl (fun ls hl => ?_)
          refine lv_iinc (v := nI (i + 1)) (lv' := [(3, .int (nI (i + 1))), (1, .long (drm σ i y1)), (0, .ref (g 0))]) hx hb dX4_digest_51 hl (k := 1) rfl (m_inc _) (by decide) rfl (fun ls hl => ?_)
          refine lv_goto (tgt := 33) hx hb dX4_digest_54 (by decide) ?_
          exact ih33 (i + 1) (by omega) _ (by rw [ey1]; rfl) ls (lv_sub hl [0, 1, 2] rfl)
      exact lp33 (kR σ) 0 (by omega) _ (ex1) ls (lv_sub hl [0, 1, 2] rfl)
    | succ n6 ih6 =>
      intro i hi6 x1 ex1 ls hl
      have hlt6 : i < 9 := by omega
      refine lv_iload_n hx hb dX4_digest_6 rfl (lv_at hl 0 rfl) ?_
      refine lv_bipush (v := 9) hx hb dX4_digest_7 (by decide) ?_
      refine lv_icmp_ge (tgt := 31) hx hb dX4_digest_9 (by decide) (fun c9 => absurd c9 (nI_ge (b := 9) hlt6 (by omega))) (fun c9 => ?_)
      refine lv_lload_n hx hb dX4_digest_12 rfl (lv_at hl 1 rfl) ?_
      refine lv_ldc2 (v := 31) hx hb hown (hts _ (by decide +kernel)) dX4_digest_13 ?_
      refine lv_lmul hx hb dX4_digest_16 ?_
      refine lv_aload_n hx hb dX4_digest_17 rfl (lv_at hl 2 rfl) ?_
      refine lv_iload_n hx hb dX4_digest_18 rfl (lv_at hl 0 rfl) ?_
      refine m_cV 1 [.int (nI i)] [.long (x1 * 31)] hx hb hml hown hts hK (c_count l E A g M σ hv hw hp i (by omega)) gX4_digest_X4_count rfl rfl rfl (by decide +kernel) rfl ⟨Nat.le_of_ble_eq_true rfl, Nat.le_of_ble_eq_true rfl⟩ hM (CW.x hw) rfl rfl hM hl.1 (Nat.le_of_ble_eq_true rfl) ⟨Nat.le_of_ble_eq_true rfl, Nat.le_of_ble_eq_true rfl⟩ rfl dX4_digest_19 ?_
      refine lv_i2l hx hb dX4_digest_22 rfl ?_
      refine lv_ladd hx hb dX4_digest_23 ?_
      refine lv_lstore_n (lv' := [(1, .long ((x1 * 31) + ((ctT σ i).toInt64))), (3, .int (nI i)), (0, .ref (g 0))]) hx hb dX4_digest_24 rfl hl (by decide) rfl (fun ls hl => ?_)
      refine lv_iinc (v := nI (i + 1)) (lv' := [(3, .int (nI (i + 1))), (1, .long ((x1 * 31) + ((ctT σ i).toInt64))), (0, .ref (g 0))]) hx hb dX4_digest_25 hl (k := 1) rfl (m_inc _) (by decide) rfl (fun ls hl => ?_)
      refine lv_goto (tgt := 6) hx hb dX4_digest_28 (by decide) ?_
      exact ih6 (i + 1) (by omega) _ (by rw [ex1]; rfl) ls (lv_sub hl [0, 1, 2] rfl)
  exact lp6 (9) 0 (by omega) _ (rfl) ls (lv_sub hl [0, 1, 2] rfl)
