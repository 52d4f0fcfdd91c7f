/-- the rows of seats allowed -/
def alF (σ : Sg) : Nat → Int32 := fun u => if u < kU σ then alR σ u (kR σ) else 0
set_option maxHeartbeats 4000000 in
set_option maxRecDepth 100000 in
theorem c_clearF (l : Launch) (E : gE) (A : Nat → Prop) (g : Nat → Nat) (M : gM) (sa : Int32) (h4 : M 4 = some (.inr (4, [.ref (g 5), .ref (g 6), .int sa]))) (f5 f6 : Nat → Int32) (h5 : M 5 = some (.inl (E.2.1, 12, .inl f5))) (h6 : M 6 = some (.inl (E.2.1, 10, .inl f6))) : Met l yX3_clear wsX3_clear ({ frames := 1, cells := 0, slots := 0, locals := 23 } : Room) (Pm E [.ref (g 4)] (mP E A g M)) (QW none (mP E A g (mu (mu M 5 (.inl (E.2.1, 12, .inl (fun _ => 0)))) 6 (.inl (E.2.1, 10, .inl (fun _ => -1))))) A) 0 0 A := by
  refine m_entry (by decide) rfl (Nat.le_of_ble_eq_true rfl) ?_
  intro p e s m args below meth c hx hb hr hml hts hown hlocks hin hM hK ls hl
  have hl : lv_has ls 1 [(0, .ref (g 4))] := hl
  have hown : s.vm.findClass RX3 = some m.cls := hown
  have hS : va_S A s.heap s.heap [] := va_S.rf
  skip
  refine lv_aload_n hx hb dX3_clear_0 rfl (lv_at hl 0 rfl) ?_
  refine m_get hx hb hts in_X3_clear_X3 hown hK hM h4 rfl 0 (by decide) (by decide +kernel) rfl dX3_clear_1 ?_
  refine lv_iconst (v := 0) hx hb dX3_clear_4 (by decide) ?_
  refine m_wS 2 [.ref (g 5), .int 0] [] hx hb hml hown hts hK (c_fill l E A g M 5 12 (by decide) _ h5 0) gX3_clear_J7_fill_53178 rfl rfl rfl (by decide +kernel) rfl ⟨Nat.le_of_ble_eq_true rfl, Nat.le_of_ble_eq_true rfl⟩ hM hl.1 (Nat.le_of_ble_eq_true rfl) ⟨Nat.le_of_ble_eq_true rfl, Nat.le_of_ble_eq_true rfl⟩ rfl dX3_clear_5 hS (fun _ _ h => h) (fun _ h => h) (fun H locs hQ hz hk hS => ?_)
  refine W.eq (g2 := F0 m 8 ls []) rfl ?_
  obtain ⟨e5, hM, he5⟩ := hQ
  have hM := mP.far hM (f2 := fun _ => 0) he5
  refine lv_aload_n hx hb dX3_clear_8 rfl (lv_at hl 0 rfl) ?_
  refine m_get hx hb hts in_X3_clear_X3 hown hK hM ((mu_n (u := 4) (t := 5) (by decide)).trans h4) rfl 1 (by decide) (by decide +kernel) rfl dX3_clear_9 ?_
  refine lv_iconst (v := (-1)) hx hb dX3_clear_12 (by decide) ?_
  refine m_wS 2 [.ref (g 6), .int (-1)] [] hx hb hml hown hts hK (c_fill l E A g (mu M 5 (.inl (E.2.1, 12, .inl (fun _ => 0)))) 6 10 (by decide) _ ((mu_n (u := 6) (t := 5) (by decide)).trans h6) (-1)) gX3_clear_J7_fill_53178 rfl rfl rfl (by decide +kernel) rfl ⟨Nat.le_of_ble_eq_true rfl, Nat.le_of_ble_eq_true rfl⟩ hM hl.1 (Nat.le_of_ble_eq_true rfl) ⟨Nat.le_of_ble_eq_true rfl, Nat.le_of_ble_eq_true rfl⟩ rfl dX3_clear_13 hS (fun _ _ h => h) (fun _ h => h) (fun H locs hQ hz hk hS => ?_)
  refine W.eq (g2 := F0 m 16 ls []) rfl ?_
  obtain ⟨e6, hM, he6⟩ := hQ
  have hM := mP.far hM (f2 := fun _ => (-1)) he6
  exact w_v hx hb hr hlocks dX3_clear_16 hS (Nat.le_of_ble_eq_true rfl) (Nat.le_of_ble_eq_true rfl) (hM)
set_option maxHeartbeats 4000000 in
set_option maxRecDepth 100000 in
theorem c_allowF (l : Launch) (E : gE) (A : Nat → Prop) (g : Nat → Nat) (M : gM) (σ : Sg) (hv : VS σ) (hw : CW E g M σ) (hp : PW E M σ) (M0 : gM) (hM0 : M0 = M) (hd : CD M σ) (f5 : Nat → Int32) (h5 : M 5 = some (.inl (E.2.1, 12, .inl f5))) (hz5 : ∀ j, j < 12 → f5 j = 0) : Met l yX4_allowSeats wsX4_allowSeats ({ frames := 3, cells := 0, slots := 0, locals := 64 } : Room) (Pm E [.ref (g 0)] (mP E A g M)) (QW none (fun H => ∃ M', mP E A g M' H ∧ AL E g M0 σ M' (alF σ)) A) 0 0 A := by
  refine m_entry (by decide) rfl (Nat.le_of_ble_eq_true rfl) ?_
  intro p e s m args below meth c hx hb hr hml hts hown hlocks hin hM hK ls hl
  have hl : lv_has ls 4 [(0, .ref (g 0))] := hl
  have hown : s.vm.findClass RX4 = some m.cls := hown
  have hS : va_S A s.heap s.heap [] := va_S.rf
  skip
  obtain ⟨⟨hR9, hG9, hU9, hD9⟩, -⟩ := id hv
  obtain ⟨mc1, el1, h1, -⟩ := CW.LR hw
  obtain ⟨mc2, el2, h2, -⟩ := CW.LG hw
  obtain ⟨mc3, el3, h3, -⟩ := CW.LU hw
  refine lv_iconst (v := 0) hx hb dX4_allowSeats_0 (by decide) ?_
  refine lv_istore_n (lv' := [(1, .int 0), (0, .ref (g 0))]) hx hb dX4_allowSeats_1 rfl hl (by decide) rfl (fun ls hl => ?_)
  have lp2 : ∀ (n2 i : Nat), n2 + i = kU σ → ∀ (H : Heap) (locs : List Loc) (M : gM) (f : Nat → Int32), (mP E A g M H ∧ AL E g M0 σ M f ∧ (∀ u, u < i → f u = alR σ u (kR σ)) ∧ ∀ u, i ≤ u → u < 12 → f u = 0) → va_S A s.heap H locs → ∀ ls : Array Slot, lv_has ls 4 [(1, .int (nI i)), (0, .ref (g 0))] → W p l e ({ frames := 3, cells := 0, slots := 0, locals := 64 } : Room) s m args below meth c H locs 0 0 (MQ below (QW none (fun H => ∃ M', mP E A g M' H ∧ AL E g M0 σ M' (alF σ)) A) args s 0 0 A) (F0 m 2 ls []) := by
    intro n2
    induction n2 with
    | zero =>
      intro i hi2 H locs M f hI hS ls hl
      obtain ⟨hM, hAL, hlo, hhi⟩ := hI
      obtain ⟨hw, hp, hd, h5, h0⟩ := id hAL
      obtain ⟨mc1, el1, h1, -⟩ := CW.LR hw
      obtain ⟨mc2, el2, h2, -⟩ := CW.LG hw
      obtain ⟨mc3, el3, h3, -⟩ := CW.LU hw
      obtain rfl : kU σ = i := by omega
      refine lv_iload_n hx hb dX4_allowSeats_2 rfl (lv_at hl 0 rfl) ?_
      refine lv_aload_n hx hb dX4_allowSeats_3 rfl (lv_at hl 1 rfl) ?_
      refine m_get hx hb hts in_X4_allowSeats_X4 hown hK hM (CW.x hw) rfl 2 (by decide) (by decide +kernel) rfl dX4_allowSeats_4 ?_
      refine m_cV 0 [] [.int (nI (kU σ))] hx hb hml hown hts hK (c_size l E A g M (CW.LU hw)) gX4_allowSeats_Jx4a65c_size_8abf5 rfl rfl rfl (by decide +kernel) rfl ⟨Nat.le_of_ble_eq_true rfl, Nat.le_of_ble_eq_true rfl⟩ hM h3 rfl rfl hM hl.1 (Nat.le_of_ble_eq_true rfl) ⟨Nat.le_of_ble_eq_true rfl, Nat.le_of_ble_eq_true rfl⟩ rfl dX4_allowSeats_7 ?_
      refine lv_icmp_ge (tgt := 84) hx hb dX4_allowSeats_10 (by decide) (fun c10 => ?_) (fun c9 => absurd (Int32.le_refl _) c9)
      exact w_v hx hb hr hlocks dX4_allowSeats_84 hS (Nat.le_of_ble_eq_true rfl) (Nat.le_of_ble_eq_true rfl) (⟨mu M 5 (.inl (E.2.1, 12, .inl (alF σ))), mP.far (f := f) (by rw [mu_id h5]; exact hM) (fun j hj => by unfold alF; split; (exact hlo j (by assumption)); (exact hhi j (by omega) hj)), hAL.put hG9⟩)
    | succ n2 ih2 =>
      intro i hi2 H locs M f hI hS ls hl
      obtain ⟨hM, hAL, hlo, hhi⟩ := hI
      obtain ⟨hw, hp, hd, h5, h0⟩ := id hAL
      obtain ⟨mc1, el1, h1, -⟩ := CW.LR hw
      obtain ⟨mc2, el2, h2, -⟩ := CW.LG hw
      obtain ⟨mc3, el3, h3, -⟩ := CW.LU hw
      have hlt2 : i < kU σ := by omega
      refine lv_iload_n hx hb dX4_allowSeats_2 rfl (lv_at hl 0 rfl) ?_
      refine lv_aload_n hx hb dX4_allowSeats_3 rfl (lv_at hl 1 rfl) ?_
      refine m_get hx hb hts in_X4_allowSeats_X4 hown hK hM (CW.x hw) rfl 2 (by decide) (by decide +kernel) rfl dX4_allowSeats_4 ?_
      refine m_cV 0 [] [.int (nI i)] hx hb hml hown hts hK (c_size l E A g M (CW.LU hw)) gX4_allowSeats_Jx4a65c_size_8abf5 rfl rfl rfl (by decide +kernel) rfl ⟨Nat.le_of_ble_eq_true rfl, Nat.le_of_ble_eq_true rfl⟩ hM h3 rfl rfl hM hl.1 (Nat.le_of_ble_eq_true rfl) ⟨Nat.le_of_ble_eq_true rfl, Nat.le_of_ble_eq_true rfl⟩ rfl dX4_allowSeats_7 ?_
      refine lv_icmp_ge (tgt := 84) hx hb dX4_allowSeats_10 (by decide) (fun c9 => absurd c9 (nI_ge hlt2 (by omega))) (fun c10 => ?_)
      refine lv_aload_n hx hb dX4_allowSeats_13 rfl (lv_at hl 1 rfl) ?_
      refine m_get hx hb hts in_X4_allowSeats_X4 hown hK hM (CW.x hw) rfl 2 (by decide) (by decide +kernel) rfl dX4_allowSeats_14 ?_
      refine lv_iload_n hx hb dX4_allowSeats_17 rfl (lv_at hl 0 rfl) ?_
      refine m_cV 1 [.int (nI i)] [] hx hb hml hown hts hK (c_get l E A g M (CW.LU hw) (by omega) i (by omega)) gX4_allowSeats_Jx4a65c_get_915e3 rfl rfl rfl (by decide +kernel) rfl ⟨Nat.le_of_ble_eq_true rfl, Nat.le_of_ble_eq_true rfl⟩ hM h3 rfl rfl hM hl.1 (Nat.le_of_ble_eq_true rfl) ⟨Nat.le_of_ble_eq_true rfl, Nat.le_of_ble_eq_true rfl⟩ rfl dX4_allowSeats_18 ?_
      refine m_cast (ci := 2) hx hb hts hown (by decide +kernel) hK hM (CW.guest hw (i := i) (by omega)) rfl dX4_allowSeats_21 ?_
      refine lv_astore_n (lv' := [(2, .ref (g (400 + i))), (1, .int (nI i)), (0, .ref (g 0))]) hx hb dX4_allowSeats_24 rfl hl (by decide) rfl (fun ls hl => ?_)
      refine lv_iconst (v := 0) hx hb dX4_allowSeats_25 (by decide) ?_
      refine lv_istore_n (lv' := [(3, .int 0), (2, .ref (g (400 + i))), (1, .int (nI i)), (0, .ref (g 0))]) hx hb dX4_allowSeats_26 rfl hl (by decide) rfl (fun ls hl => ?_)
      have lp27 : ∀ (n27 j : Nat), n27 + j = kR σ → ∀ (H : Heap) (locs : List Loc) (M : gM) (f : Nat → Int32), (mP E A g M H ∧ AL E g M0 σ M f ∧ (∀ u, u < i → f u = alR σ u (kR σ)) ∧ f i = alR σ i j ∧ ∀ u, i < u → u < 12 → f u = 0) → va_S A s.heap H locs → ∀ ls : Array Slot, lv_has ls 4 [(3, .int (nI j)), (2, .ref (g (400 + i))), (1, .int (nI i)), (0, .ref (g 0))] → W p l e ({ frames := 3, cells := 0, slots := 0, locals := 64 } : Room) s m args below meth c H locs 0 0 (MQ below (QW none (fun H => ∃ M', mP E A g M' H ∧ AL E g M0 σ M' (alF σ)) A) args s 0 0 A) (F0 m 27 ls []) := by
        intro n27
        induction n27 with
        | zero =>
          intro j hi27 H locs M f hI hS ls hl
          obtain ⟨hM, hAL, hlo, hmid, hhi⟩ := hI
          obtain ⟨hw, hp, hd, h5, h0⟩ := id hAL
          obtain ⟨mc1, el1, h1, -⟩ := CW.LR hw
          obtain ⟨mc2, el2, h2, -⟩ := CW.LG hw
          obtain ⟨mc3, el3, h3, -⟩ := CW.LU hw
          obtain rfl : kR σ = j := by omega
          refine lv_iload_n hx hb dX4_allowSeats_27 rfl (lv_at hl 0 rfl) ?_
          refine lv_aload_n hx hb dX4_allowSeats_28 rfl (lv_at hl 3 rfl) ?_
          refine m_get hx hb hts in_X4_allowSeats_X4 hown hK hM (CW.x hw) rfl 0 (by decide) (by decide +kernel) rfl dX4_allowSeats_29 ?_
          refine m_cV 0 [] [.int (nI (kR σ))] hx hb hml hown hts hK (c_size l E A g M (CW.LR hw)) gX4_allowSeats_Jx4a65c_size_8abf5 rfl rfl rfl (by decide +kernel) rfl ⟨Nat.le_of_ble_eq_true rfl, Nat.le_of_ble_eq_true rfl⟩ hM h1 rfl rfl hM hl.1 (Nat.le_of_ble_eq_true rfl) ⟨Nat.le_of_ble_eq_true rfl, Nat.le_of_ble_eq_true rfl⟩ rfl dX4_allowSeats_32 ?_
          refine lv_icmp_ge (tgt := 78) hx hb dX4_allowSeats_35 (by decide) (fun c35 => ?_) (fun c9 => absurd (Int32.le_refl _) c9)
          refine lv_iinc (v := nI (i + 1)) (lv' := [(1, .int (nI (i + 1))), (3, .int (nI (kR σ))), (2, .ref (g (400 + i))), (0, .ref (g 0))]) hx hb dX4_allowSeats_78 hl (k := 2) rfl (m_inc _) (by decide) rfl (fun ls hl => ?_)
          refine lv_goto (tgt := 2) hx hb dX4_allowSeats_81 (by decide) ?_
          exact ih2 (i + 1) (by omega) _ _ _ _ ⟨hM, hAL, fun u hu => by rcases Nat.lt_succ_iff_lt_or_eq.mp hu with q | q; (exact hlo u q); (rw [q]; exact hmid), fun u h1 h2 => hhi u (by omega) h2⟩ hS ls (lv_sub hl [0, 3] rfl)
        | succ n27 ih27 =>
          intro j hi27 H locs M f hI hS ls hl
          obtain ⟨hM, hAL, hlo, hmid, hhi⟩ := hI
          obtain ⟨hw, hp, hd, h5, h0⟩ := id hAL
          obtain ⟨mc1, el1, h1, -⟩ := CW.LR hw
          obtain ⟨mc2, el2, h2, -⟩ := CW.LG hw
          obtain ⟨mc3, el3, h3, -⟩ := CW.LU hw
          have hlt27 : j < kR σ := by omega
          refine lv_iload_n hx hb dX4_allowSeats_27 rfl (lv_at hl 0 rfl) ?_
          refine lv_aload_n hx hb dX4_allowSeats_28 rfl (lv_at hl 3 rfl) ?_
          refine m_get hx hb hts in_X4_allowSeats_X4 hown hK hM (CW.x hw) rfl 0 (by decide) (by decide +kernel) rfl dX4_allowSeats_29 ?_
          refine m_cV 0 [] [.int (nI j)] hx hb hml hown hts hK (c_size l E A g M (CW.LR hw)) gX4_allowSeats_Jx4a65c_size_8abf5 rfl rfl rfl (by decide +kernel) rfl ⟨Nat.le_of_ble_eq_true rfl, Nat.le_of_ble_eq_true rfl⟩ hM h1 rfl rfl hM hl.1 (Nat.le_of_ble_eq_true rfl) ⟨Nat.le_of_ble_eq_true rfl, Nat.le_of_ble_eq_true rfl⟩ rfl dX4_allowSeats_32 ?_
          refine lv_icmp_ge (tgt := 78) hx hb dX4_allowSeats_35 (by decide) (fun c9 => absurd c9 (nI_ge hlt27 (by omega))) (fun c35 => ?_)
          refine lv_aload_n hx hb dX4_allowSeats_38 rfl (lv_at hl 1 rfl) ?_
          refine m_cV 0 [] [] hx hb hml hown hts hK (c_hasBid l E A g M (400 + i) (sGu σ i 1) (sGu σ i 0) (sGu σ i 2) (sGu σ i 3) (sGu σ i 4) (sGu σ i 5) (sGu σ i 6) (CW.guest hw (by omega))) gX4_allowSeats_X1_hasBid rfl rfl rfl (by decide +kernel) rfl ⟨Nat.le_of_ble_eq_true rfl, Nat.le_of_ble_eq_true rfl⟩ hM (CW.guest hw (i := i) (by omega)) rfl rfl hM hl.1 (Nat.le_of_ble_eq_true rfl) ⟨Nat.le_of_ble_eq_true rfl, Nat.le_of_ble_eq_true rfl⟩ rfl dX4_allowSeats_39 ?_
          refine lv_if_eq (tgt := 72) hx hb dX4_allowSeats_42 (by decide) (fun c42 => ?_) (fun c42 => ?_)
          · have c42 := of_decide_eq_false (bI_f c42)
            have c42 := Classical.not_not.mp c42
            refine lv_iinc (v := nI (j + 1)) (lv' := [(3, .int (nI (j + 1))), (2, .ref (g (400 + i))), (1, .int (nI i)), (0, .ref (g 0))]) hx hb dX4_allowSeats_72 hl (k := 0) rfl (m_inc _) (by decide) rfl (fun ls hl => ?_)
            refine lv_goto (tgt := 27) hx hb dX4_allowSeats_75 (by decide) ?_
            exact ih27 (j + 1) (by omega) _ _ _ _ ⟨hM, hAL, hlo, by rw [alR_n1 c42]; exact hmid, hhi⟩ hS ls (lv_sub hl [0, 1, 2, 3] rfl)
          · have c42 := of_decide_eq_true (bI_t c42)
            refine lv_aload_n hx hb dX4_allowSeats_45 rfl (lv_at hl 1 rfl) ?_
            refine lv_aload_n hx hb dX4_allowSeats_46 rfl (lv_at hl 3 rfl) ?_
            refine m_get hx hb hts in_X4_allowSeats_X4 hown hK hM (CW.x hw) rfl 0 (by decide) (by decide +kernel) rfl dX4_allowSeats_47 ?_
            refine lv_iload_n hx hb dX4_allowSeats_50 rfl (lv_at hl 0 rfl) ?_
            refine m_cV 1 [.int (nI j)] [.ref (g (400 + i))] hx hb hml hown hts hK (c_get l E A g M (CW.LR hw) (by omega) j (by omega)) gX4_allowSeats_Jx4a65c_get_915e3 rfl rfl rfl (by decide +kernel) rfl ⟨Nat.le_of_ble_eq_true rfl, Nat.le_of_ble_eq_true rfl⟩ hM h1 rfl rfl hM hl.1 (Nat.le_of_ble_eq_true rfl) ⟨Nat.le_of_ble_eq_true rfl, Nat.le_of_ble_eq_true rfl⟩ rfl dX4_allowSeats_51 ?_
            refine m_cast (ci := 3) hx hb hts hown (by decide +kernel) hK hM (CW.room hw (i := j) (by omega)) rfl dX4_allowSeats_54 ?_
            refine m_cV 1 [.ref (g (100 + j))] [] hx hb hml hown hts hK (c_couldBidFor l E A g M (400 + i) (sGu σ i 1) (sGu σ i 0) (sGu σ i 2) (sGu σ i 3) (sGu σ i 4) (sGu σ i 5) (sGu σ i 6) (CW.guest hw (by omega)) (100 + j) (sRm σ j 0) (sRm σ j 2) (sRm σ j 1) (sRm σ j 3) (sRm σ j 4) (sJn σ j) (CW.room hw (by omega))) gX4_allowSeats_X1_couldBidFor rfl rfl rfl (by decide +kernel) rfl ⟨Nat.le_of_ble_eq_true rfl, Nat.le_of_ble_eq_true rfl⟩ hM (CW.guest hw (i := i) (by omega)) rfl rfl hM hl.1 (Nat.le_of_ble_eq_true rfl) ⟨Nat.le_of_ble_eq_true rfl, Nat.le_of_ble_eq_true rfl⟩ rfl dX4_allowSeats_57 ?_
            refine lv_if_eq (tgt := 72) hx hb dX4_allowSeats_60 (by decide) (fun c60 => ?_) (fun c60 => ?_)
            · have c60 := bI_f c60
              refine lv_iinc (v := nI (j + 1)) (lv' := [(3, .int (nI (j + 1))), (2, .ref (g (400 + i))), (1, .int (nI i)), (0, .ref (g 0))]) hx hb dX4_allowSeats_72 hl (k := 0) rfl (m_inc _) (by decide) rfl (fun ls hl => ?_)
              refine lv_goto (tgt := 27) hx hb dX4_allowSeats_75 (by decide) ?_
              exact ih27 (j + 1) (by omega) _ _ _ _ ⟨hM, hAL, hlo, by rw [alR_n2 c60]; exact hmid, hhi⟩ hS ls (lv_sub hl [0, 1, 2, 3] rfl)
            · have c60 := bI_t c60
              obtain ⟨⟨as9, h49⟩, -, ⟨f69, h69⟩⟩ := hw.2.1
              refine lv_aload_n hx hb dX4_allowSeats_63 rfl (lv_at hl 3 rfl) ?_
              refine m_get hx hb hts in_X4_allowSeats_X4 hown hK hM (CW.x hw) rfl 3 (by decide) (by decide +kernel) rfl dX4_allowSeats_64 ?_
              refine lv_iload_n hx hb dX4_allowSeats_67 rfl (lv_at hl 2 rfl) ?_
              refine lv_iload_n hx hb dX4_allowSeats_68 rfl (lv_at hl 0 rfl) ?_
              refine m_wV 2 [.int (nI i), .int (nI j)] [] hx hb hml hown hts hK (c_allow l E A g M as9 h49 f f69 h5 h69 i j (by omega)) gX4_allowSeats_X3_allow rfl rfl rfl (by decide +kernel) rfl ⟨Nat.le_of_ble_eq_true rfl, Nat.le_of_ble_eq_true rfl⟩ hM h49 rfl rfl hM hl.1 (Nat.le_of_ble_eq_true rfl) ⟨Nat.le_of_ble_eq_true rfl, Nat.le_of_ble_eq_true rfl⟩ rfl dX4_allowSeats_69 hS (fun _ _ h => h) (fun _ h => h) (fun H locs hQ hz hk hS => ?_)
              refine W.eq (g2 := F0 m 72 ls []) rfl ?_
              obtain ⟨M, f, hM, hAL, hlo, hmid, hhi⟩ : ∃ M' f', mP E A g M' H ∧ AL E g M0 σ M' f' ∧ (∀ u, u < i → f' u = alR σ u (kR σ)) ∧ f' i = alR σ i (j + 1) ∧ ∀ u, i < u → u < 12 → f' u = 0 := ⟨_, _, hQ, hAL.put hG9, fun u hu => by rw [nI_clamp (by omega), pk_un (by omega)]; exact hlo u hu, by rw [nI_clamp (by omega), pk_us, hmid, alR_y c42 c60], fun u h1 h2 => by rw [nI_clamp (by omega), pk_un (by omega)]; exact hhi u h1 h2⟩
              refine lv_iinc (v := nI (j + 1)) (lv' := [(3, .int (nI (j + 1))), (2, .ref (g (400 + i))), (1, .int (nI i)), (0, .ref (g 0))]) hx hb dX4_allowSeats_72 hl (k := 0) rfl (m_inc _) (by decide) rfl (fun ls hl => ?_)
              refine lv_goto (tgt := 27) hx hb dX4_allowSeats_75 (by decide) ?_
              exact ih27 (j + 1) (by omega) _ _ _ _ ⟨hM, hAL, hlo, hmid, hhi⟩ hS ls (lv_sub hl [0, 1, 2, 3] rfl)
      exact lp27 (kR σ) 0 (by omega) _ _ _ _ ⟨hM, hAL, hlo, by rw [hhi i (Nat.le_refl _) (by omega)]; rfl, fun u h1 h2 => hhi u (by omega) h2⟩ hS ls (lv_sub hl [0, 1, 2, 3] rfl)
  exact lp2 (kU σ) 0 (by omega) _ _ M f5 ⟨hM, ⟨hw, hp, hd, h5, fun _ _ => by rw [hM0]⟩, fun u hu => absurd hu (Nat.not_lt_zero u), fun u _ hu => hz5 u hu⟩ hS ls (lv_sub hl [0, 1] rfl)
