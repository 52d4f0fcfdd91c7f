def mbA (σ : Sg) (u : Nat) : Nat → Option Nat
  | 0 => none
  | k + 1 => if sRm σ k 0 < sGu σ u 1 then mbA σ u k else if sGu σ u 0 < sRm σ k 2 then mbA σ u k else if upB (sGu σ u 2) (hON σ (nI k) (-1) 12) = true then mbA σ u k else
    match mbA σ u k with
    | none => some k
    | some j => if sRm σ k 1 ≤ sRm σ j 1 then some j else some k
theorem mbA_lt (σ : Sg) (u : Nat) : ∀ n j, mbA σ u n = some j → j < n
  | 0, j, h => by cases h
  | n + 1, j, h => by
    have ih := mbA_lt σ u n
    rw [mbA] at h
    split at h
    · exact Nat.lt_succ_of_lt (ih _ h)
    · split at h
      · exact Nat.lt_succ_of_lt (ih _ h)
      · split at h
        · exact Nat.lt_succ_of_lt (ih _ h)
        · split at h
          · cases h; exact Nat.lt_succ_self _
          · rename_i j0 e
            split at h
            · cases h; exact Nat.lt_succ_of_lt (ih _ e)
            · cases h; exact Nat.lt_succ_self _
theorem mbA_bes {σ : Sg} (hv : VS σ) (u : Nat) : ∀ n, n ≤ kR σ → (mbA σ u n = none ∧ besA σ u n = (-1, -1)) ∨ ∃ j, mbA σ u n = some j ∧ besA σ u n = (nI j, sRm σ j 1)
  | 0, _ => Or.inl ⟨rfl, rfl⟩
  | n + 1, hn => by
    have ih := mbA_bes hv u n (by omega)
    have hc : ¬ sRm σ n 1 ≤ -1 := fun q => absurd (Int32.le_trans (hv.2.1 n (by omega)).1 q) (by decide)
    by_cases c1 : sRm σ n 0 < sGu σ u 1
    · rw [mbA, if_pos c1, besA, if_neg (fun q => q.2.1 c1)]; exact ih
    · by_cases c2 : sGu σ u 0 < sRm σ n 2
      · rw [mbA, if_neg c1, if_pos c2, besA, if_neg (fun q => q.2.2.1 c2)]; exact ih
      · by_cases c3 : upB (sGu σ u 2) (hON σ (nI n) (-1) 12) = true
        · rw [mbA, if_neg c1, if_neg c2, if_pos c3, besA, if_neg (fun q => by rw [c3] at q; exact absurd q.2.2.2 (by decide))]; exact ih
        · rw [mbA, if_neg c1, if_neg c2, if_neg c3, besA]
          rcases ih with ⟨h1, h2⟩ | ⟨j, h1, h2⟩
          · rw [h1, h2, if_pos ⟨hc, c1, c2, not_true c3⟩]
            exact Or.inr ⟨n, rfl, rfl⟩
          · rw [h1, h2]
            by_cases c4 : sRm σ n 1 ≤ sRm σ j 1
            · rw [if_neg (fun q => q.1 c4)]
              exact Or.inr ⟨j, if_pos c4, rfl⟩
            · rw [if_pos ⟨c4, c1, c2, not_true c3⟩]
              exact Or.inr ⟨n, if_neg c4, rfl⟩
theorem mbA_1 {σ : Sg} (hv : VS σ) (u : Nat) : oI (mbA σ u (kR σ)) = (besA σ u (kR σ)).1 := by
  rcases mbA_bes hv u (kR σ) (Nat.le_refl _) with ⟨h1, h2⟩ | ⟨j, h1, h2⟩ <;> rw [h1, h2] <;> rfl
theorem in_X5_best_X5 : ∀ w ∈ u_ws RX5 TX5 11, w ∈ wsX5_best := by decide +kernel
set_option maxHeartbeats 4000000 in
set_option maxRecDepth 100000 in
theorem m_best (l : Launch) (E : gE) (A : Nat → Prop) (g : Nat → Nat) (M : gM) (σ : Sg) (th : Int32) (hv : VS σ) (hw : MW E g M σ th) (u : Nat) (hu : u < kU σ) : Met l yX5_best wsX5_best ({ frames := 4, cells := 0, slots := 0, locals := 92 } : Room) (Pm E [.ref (g 0), .int (nI u)] (mP E A g M)) (QW (some (.int ((besA σ u (kR σ)).1))) (fun H => ∃ M', mP E A g M' H ∧ MW E g M' σ 0) A) 0 0 A := by
  refine m_entry (by decide) rfl (Nat.le_of_ble_eq_true rfl) ?_
  intro p e s m args below meth c hx hb hr hml hts hown hlocks hin hM hK ls hl
  have hl : lv_has ls 4 [(0, .ref (g 0)), (1, .int (nI u))] := hl
  have hown : s.vm.findClass RX5 = some m.cls := hown
  have hS : va_S A s.heap s.heap [] := va_S.rf
  skip
  obtain ⟨⟨hR9, hG9, hU9, hD9⟩, -⟩ := id hv
  obtain ⟨f1, m1, hf1⟩ := MW.house hw
  obtain ⟨f2, m2, hf2⟩ := MW.joined hw
  obtain ⟨f3, m3, hf3⟩ := MW.spooks hw
  obtain ⟨f4, m4, hf4⟩ := MW.people hw
  obtain ⟨f5, m5, hf5⟩ := MW.numbers hw
  refine lv_aload_n hx hb dX5_best_0 rfl (lv_at hl 0 rfl) ?_
  refine lv_iconst (v := 0) hx hb dX5_best_1 (by decide) ?_
  refine m_put hx hb hts in_X5_best_X5 tyX5 tyX5_ok nmX5 hown hK hM hS (MW.x hw) rfl 0 (by decide) (by decide +kernel) rfl (tyX5_ok 0 (by decide)) rfl rfl (Nat.le_of_ble_eq_true rfl) dX5_best_2 (fun H locs hM hz hS => ?_)
  obtain ⟨M, hM, hw⟩ : ∃ M', mP E A g M' H ∧ MW E g M' σ 0 := ⟨_, hM, MW.setTh hw _⟩
  obtain ⟨f1, m1, hf1⟩ := MW.house hw
  obtain ⟨f2, m2, hf2⟩ := MW.joined hw
  obtain ⟨f3, m3, hf3⟩ := MW.spooks hw
  obtain ⟨f4, m4, hf4⟩ := MW.people hw
  obtain ⟨f5, m5, hf5⟩ := MW.numbers hw
  refine lv_aload_n hx hb dX5_best_5 rfl (lv_at hl 0 rfl) ?_
  refine lv_iload_n hx hb dX5_best_6 rfl (lv_at hl 1 rfl) ?_
  refine m_cV 1 [.int (nI u)] [] hx hb hml hown hts hK (c_misGuestY l E A g M σ 0 hv hw u (by omega)) gX5_best_X5_isGuest rfl rfl rfl (by decide +kernel) rfl ⟨Nat.le_of_ble_eq_true rfl, Nat.le_of_ble_eq_true rfl⟩ hM (MW.x hw) rfl rfl hM hl.1 (Nat.le_of_ble_eq_true rfl) ⟨Nat.le_of_ble_eq_true rfl, Nat.le_of_ble_eq_true rfl⟩ rfl dX5_best_7 ?_
  refine lv_if_ne (tgt := 19) hx hb dX5_best_10 (by decide) (fun c9 => ?_) (fun c9 => absurd c9 (by decide))
  refine lv_iconst (v := (-1)) hx hb dX5_best_19 (by decide) ?_
  refine lv_istore_n (lv' := [(2, .int (-1)), (0, .ref (g 0)), (1, .int (nI u))]) hx hb dX5_best_20 rfl hl (by decide) rfl (fun ls hl => ?_)
  refine lv_iconst (v := 0) hx hb dX5_best_21 (by decide) ?_
  refine lv_istore_n (lv' := [(3, .int 0), (2, .int (-1)), (0, .ref (g 0)), (1, .int (nI u))]) hx hb dX5_best_22 rfl hl (by decide) rfl (fun ls hl => ?_)
  have lp23 : ∀ (n23 i : Nat), n23 + i = kR σ → ∀ (H : Heap) (locs : List Loc) (M : gM), (mP E A g M H ∧ MW E g M σ 0) → va_S A s.heap H locs → ∀ x2 : Int32, x2 = oI (mbA σ u i) → ∀ ls : Array Slot, lv_has ls 4 [(3, .int (nI i)), (2, .int x2), (0, .ref (g 0)), (1, .int (nI u))] → W p l e ({ frames := 4, cells := 0, slots := 0, locals := 92 } : Room) s m args below meth c H locs 0 0 (MQ below (QW (some (.int ((besA σ u (kR σ)).1))) (fun H => ∃ M', mP E A g M' H ∧ MW E g M' σ 0) A) args s 0 0 A) (F0 m 23 ls []) := by
    intro n23
    induction n23 with
    | zero =>
      intro i hi23 H locs M hI hS x2 ex2 ls hl
      obtain ⟨hM, hw⟩ := hI
      obtain ⟨f1, m1, hf1⟩ := MW.house hw
      obtain ⟨f2, m2, hf2⟩ := MW.joined hw
      obtain ⟨f3, m3, hf3⟩ := MW.spooks hw
      obtain ⟨f4, m4, hf4⟩ := MW.people hw
      obtain ⟨f5, m5, hf5⟩ := MW.numbers hw
      obtain rfl : kR σ = i := by omega
      refine lv_iload_n hx hb dX5_best_23 rfl (lv_at hl 0 rfl) ?_
      refine lv_aload_n hx hb dX5_best_24 rfl (lv_at hl 2 rfl) ?_
      refine m_get hx hb hts in_X5_best_X5 hown hK hM (MW.x hw) rfl 1 (by decide) (by decide +kernel) rfl dX5_best_25 ?_
      refine lv_icmp_ge (tgt := 110) hx hb dX5_best_28 (by decide) (fun c28 => ?_) (fun c9 => absurd (Int32.le_refl _) c9)
      refine lv_iload_n hx hb dX5_best_110 rfl (lv_at hl 1 rfl) ?_
      exact w_i hx hb hr hlocks dX5_best_111 hS (Nat.le_of_ble_eq_true rfl) (Nat.le_of_ble_eq_true rfl) (by rw [ex2, mbA_1 hv u]) (⟨_, hM, hw⟩)
    | succ n23 ih23 =>
      intro i hi23 H locs M hI hS x2 ex2 ls hl
      obtain ⟨hM, hw⟩ := hI
      obtain ⟨f1, m1, hf1⟩ := MW.house hw
      obtain ⟨f2, m2, hf2⟩ := MW.joined hw
      obtain ⟨f3, m3, hf3⟩ := MW.spooks hw
      obtain ⟨f4, m4, hf4⟩ := MW.people hw
      obtain ⟨f5, m5, hf5⟩ := MW.numbers hw
      have hlt23 : i < kR σ := by omega
      refine lv_iload_n hx hb dX5_best_23 rfl (lv_at hl 0 rfl) ?_
      refine lv_aload_n hx hb dX5_best_24 rfl (lv_at hl 2 rfl) ?_
      refine m_get hx hb hts in_X5_best_X5 hown hK hM (MW.x hw) rfl 1 (by decide) (by decide +kernel) rfl dX5_best_25 ?_
      refine lv_icmp_ge (tgt := 110) hx hb dX5_best_28 (by decide) (fun c9 => absurd c9 (nI_ge hlt23 (by omega))) (fun c28 => ?_)
      refine lv_aload_n hx hb dX5_best_31 rfl (lv_at hl 2 rfl) ?_
      refine lv_iload_n hx hb dX5_best_32 rfl (lv_at hl 0 rfl) ?_
      refine lv_iconst (v := 0) hx hb dX5_best_33 (by decide) ?_
      refine m_cV 2 [.int (nI i), .int 0] [] hx hb hml hown hts hK (c_ro l E A g M σ 0 hw i 0 (by omega) (by omega)) gX5_best_X5_ro rfl rfl rfl (by decide +kernel) rfl ⟨Nat.le_of_ble_eq_true rfl, Nat.le_of_ble_eq_true rfl⟩ hM (MW.x hw) rfl rfl hM hl.1 (Nat.le_of_ble_eq_true rfl) ⟨Nat.le_of_ble_eq_true rfl, Nat.le_of_ble_eq_true rfl⟩ rfl dX5_best_34 ?_
      refine lv_aload_n hx hb dX5_best_37 rfl (lv_at hl 2 rfl) ?_
      refine lv_iload_n hx hb dX5_best_38 rfl (lv_at hl 3 rfl) ?_
      refine lv_iconst (v := 1) hx hb dX5_best_39 (by decide) ?_
      refine m_cV 2 [.int (nI u), .int 1] [.int (sRm σ i 0)] hx hb hml hown hts hK (c_pe l E A g M σ 0 hw u 1 (by omega) (by omega)) gX5_best_X5_pe rfl rfl rfl (by decide +kernel) rfl ⟨Nat.le_of_ble_eq_true rfl, Nat.le_of_ble_eq_true rfl⟩ hM (MW.x hw) rfl rfl hM hl.1 (Nat.le_of_ble_eq_true rfl) ⟨Nat.le_of_ble_eq_true rfl, Nat.le_of_ble_eq_true rfl⟩ rfl dX5_best_40 ?_
      refine lv_icmp_lt (tgt := 104) hx hb dX5_best_43 (by decide) (fun c43 => ?_) (fun c43 => ?_)
      · refine lv_iinc (v := nI (i + 1)) (lv' := [(3, .int (nI (i + 1))), (2, .int x2), (0, .ref (g 0)), (1, .int (nI u))]) hx hb dX5_best_104 hl (k := 0) rfl (m_inc _) (by decide) rfl (fun ls hl => ?_)
        refine lv_goto (tgt := 23) hx hb dX5_best_107 (by decide) ?_
        exact ih23 (i + 1) (by omega) _ _ _ ⟨hM, hw⟩ hS _ (by rw [mbA, if_pos c43, ex2]) ls (lv_sub hl [0, 1, 2, 3] rfl)
      · refine lv_aload_n hx hb dX5_best_46 rfl (lv_at hl 2 rfl) ?_
        refine lv_iload_n hx hb dX5_best_47 rfl (lv_at hl 0 rfl) ?_
        refine lv_iconst (v := 2) hx hb dX5_best_48 (by decide) ?_
        refine m_cV 2 [.int (nI i), .int 2] [] hx hb hml hown hts hK (c_ro l E A g M σ 0 hw i 2 (by omega) (by omega)) gX5_best_X5_ro rfl rfl rfl (by decide +kernel) rfl ⟨Nat.le_of_ble_eq_true rfl, Nat.le_of_ble_eq_true rfl⟩ hM (MW.x hw) rfl rfl hM hl.1 (Nat.le_of_ble_eq_true rfl) ⟨Nat.le_of_ble_eq_true rfl, Nat.le_of_ble_eq_true rfl⟩ rfl dX5_best_49 ?_
        refine lv_aload_n hx hb dX5_best_52 rfl (lv_at hl 2 rfl) ?_
        refine lv_iload_n hx hb dX5_best_53 rfl (lv_at hl 3 rfl) ?_
        refine lv_iconst (v := 0) hx hb dX5_best_54 (by decide) ?_
        refine m_cV 2 [.int (nI u), .int 0] [.int (sRm σ i 2)] hx hb hml hown hts hK (c_pe l E A g M σ 0 hw u 0 (by omega) (by omega)) gX5_best_X5_pe rfl rfl rfl (by decide +kernel) rfl ⟨Nat.le_of_ble_eq_true rfl, Nat.le_of_ble_eq_true rfl⟩ hM (MW.x hw) rfl rfl hM hl.1 (Nat.le_of_ble_eq_true rfl) ⟨Nat.le_of_ble_eq_true rfl, Nat.le_of_ble_eq_true rfl⟩ rfl dX5_best_55 ?_
        refine lv_icmp_gt (tgt := 104) hx hb dX5_best_58 (by decide) (fun c58 => ?_) (fun c58 => ?_)
        · refine lv_iinc (v := nI (i + 1)) (lv' := [(3, .int (nI (i + 1))), (2, .int x2), (0, .ref (g 0)), (1, .int (nI u))]) hx hb dX5_best_104 hl (k := 0) rfl (m_inc _) (by decide) rfl (fun ls hl => ?_)
          refine lv_goto (tgt := 23) hx hb dX5_best_107 (by decide) ?_
          exact ih23 (i + 1) (by omega) _ _ _ ⟨hM, hw⟩ hS _ (by rw [mbA, if_neg c43, if_pos c58, ex2]) ls (lv_sub hl [0, 1, 2, 3] rfl)
        · refine lv_aload_n hx hb dX5_best_61 rfl (lv_at hl 2 rfl) ?_
          refine lv_iload_n hx hb dX5_best_62 rfl (lv_at hl 3 rfl) ?_
          refine lv_iconst (v := 2) hx hb dX5_best_63 (by decide) ?_
          refine m_cV 2 [.int (nI u), .int 2] [] hx hb hml hown hts hK (c_pe l E A g M σ 0 hw u 2 (by omega) (by omega)) gX5_best_X5_pe rfl rfl rfl (by decide +kernel) rfl ⟨Nat.le_of_ble_eq_true rfl, Nat.le_of_ble_eq_true rfl⟩ hM (MW.x hw) rfl rfl hM hl.1 (Nat.le_of_ble_eq_true rfl) ⟨Nat.le_of_ble_eq_true rfl, Nat.le_of_ble_eq_true rfl⟩ rfl dX5_best_64 ?_
          refine lv_aload_n hx hb dX5_best_67 rfl (lv_at hl 2 rfl) ?_
          refine lv_iload_n hx hb dX5_best_68 rfl (lv_at hl 0 rfl) ?_
          refine lv_iconst (v := (-1)) hx hb dX5_best_69 (by decide) ?_
          refine m_cV 2 [.int (nI i), .int (-1)] [.int (sGu σ u 2)] hx hb hml hown hts hK (c_haunted l E A g M σ 0 hv hw (nI i) (-1)) gX5_best_X5_haunted rfl rfl rfl (by decide +kernel) rfl ⟨Nat.le_of_ble_eq_true rfl, Nat.le_of_ble_eq_true rfl⟩ hM (MW.x hw) rfl rfl hM hl.1 (Nat.le_of_ble_eq_true rfl) ⟨Nat.le_of_ble_eq_true rfl, Nat.le_of_ble_eq_true rfl⟩ rfl dX5_best_70 ?_
          refine m_cS 2 [.int (sGu σ u 2), .int (hON σ (nI i) (-1) 12)] [] hx hb hml hown hts hK (c_isBad l E A g M (sGu σ u 2) (hON σ (nI i) (-1) 12)) gX5_best_X5_isBad rfl rfl rfl (by decide +kernel) rfl ⟨Nat.le_of_ble_eq_true rfl, Nat.le_of_ble_eq_true rfl⟩ trivial hl.1 (Nat.le_of_ble_eq_true rfl) ⟨Nat.le_of_ble_eq_true rfl, Nat.le_of_ble_eq_true rfl⟩ rfl dX5_best_73 ?_
          refine lv_if_eq (tgt := 82) hx hb dX5_best_76 (by decide) (fun c76 => ?_) (fun c76 => ?_)
          · have c76 := bI_f c76
            refine lv_iload_n hx hb dX5_best_82 rfl (lv_at hl 1 rfl) ?_
            refine lv_iconst (v := (-1)) hx hb dX5_best_83 (by decide) ?_
            refine lv_icmp_eq (tgt := 102) hx hb dX5_best_84 (by decide) (fun c84 => ?_) (fun c84 => ?_)
            · have hn9 := oI_none ex2 c84 (fun j hj => Nat.lt_trans (mbA_lt σ u _ j hj) (by omega))
              refine lv_iload_n hx hb dX5_best_102 rfl (lv_at hl 0 rfl) ?_
              refine lv_istore_n (lv' := [(2, .int (nI i)), (3, .int (nI i)), (0, .ref (g 0)), (1, .int (nI u))]) hx hb dX5_best_103 rfl hl (by decide) rfl (fun ls hl => ?_)
              refine lv_iinc (v := nI (i + 1)) (lv' := [(3, .int (nI (i + 1))), (2, .int (nI i)), (0, .ref (g 0)), (1, .int (nI u))]) hx hb dX5_best_104 hl (k := 1) rfl (m_inc _) (by decide) rfl (fun ls hl => ?_)
              refine lv_goto (tgt := 23) hx hb dX5_best_107 (by decide) ?_
              exact ih23 (i + 1) (by omega) _ _ _ ⟨hM, hw⟩ hS _ (by rw [mbA, if_neg c43, if_neg c58, if_neg (by rw [c76]; decide), hn9]; rfl) ls (lv_sub hl [0, 1, 2, 3] rfl)
            · obtain ⟨j9, hn9, hx9⟩ := oI_some ex2 c84
              have hj9 := mbA_lt σ u _ j9 hn9
              subst hx9
              refine lv_aload_n hx hb dX5_best_87 rfl (lv_at hl 2 rfl) ?_
              refine lv_iload_n hx hb dX5_best_88 rfl (lv_at hl 0 rfl) ?_
              refine lv_iconst (v := 1) hx hb dX5_best_89 (by decide) ?_
              refine m_cV 2 [.int (nI i), .int 1] [] hx hb hml hown hts hK (c_ro l E A g M σ 0 hw i 1 (by omega) (by omega)) gX5_best_X5_ro rfl rfl rfl (by decide +kernel) rfl ⟨Nat.le_of_ble_eq_true rfl, Nat.le_of_ble_eq_true rfl⟩ hM (MW.x hw) rfl rfl hM hl.1 (Nat.le_of_ble_eq_true rfl) ⟨Nat.le_of_ble_eq_true rfl, Nat.le_of_ble_eq_true rfl⟩ rfl dX5_best_90 ?_
              refine lv_aload_n hx hb dX5_best_93 rfl (lv_at hl 2 rfl) ?_
              refine lv_iload_n hx hb dX5_best_94 rfl (lv_at hl 1 rfl) ?_
              refine lv_iconst (v := 1) hx hb dX5_best_95 (by decide) ?_
              refine m_cV 2 [.int (nI j9), .int 1] [.int (sRm σ i 1)] hx hb hml hown hts hK (c_ro l E A g M σ 0 hw j9 1 (by omega) (by omega)) gX5_best_X5_ro rfl rfl rfl (by decide +kernel) rfl ⟨Nat.le_of_ble_eq_true rfl, Nat.le_of_ble_eq_true rfl⟩ hM (MW.x hw) rfl rfl hM hl.1 (Nat.le_of_ble_eq_true rfl) ⟨Nat.le_of_ble_eq_true rfl, Nat.le_of_ble_eq_true rfl⟩ rfl dX5_best_96 ?_
              refine lv_icmp_le (tgt := 104) hx hb dX5_best_99 (by decide) (fun c99 => ?_) (fun c99 => ?_)
              · refine lv_iinc (v := nI (i + 1)) (lv' := [(3, .int (nI (i + 1))), (2, .int (nI j9)), (0, .ref (g 0)), (1, .int (nI u))]) hx hb dX5_best_104 hl (k := 0) rfl (m_inc _) (by decide) rfl (fun ls hl => ?_)
                refine lv_goto (tgt := 23) hx hb dX5_best_107 (by decide) ?_
                exact ih23 (i + 1) (by omega) _ _ _ ⟨hM, hw⟩ hS _ (by rw [mbA, if_neg c43, if_neg c58, if_neg (by rw [c76]; decide), hn9]; simp only [c99, if_true, if_false, true_and, and_true, false_and, and_false, not_true_eq_false, not_false_eq_true, reduceCtorEq, eq_self_iff_true, and_self, Bool.false_eq_true, Bool.not_eq_true]; rfl) ls (lv_sub hl [0, 1, 2, 3] rfl)
              · refine lv_iload_n hx hb dX5_best_102 rfl (lv_at hl 0 rfl) ?_
                refine lv_istore_n (lv' := [(2, .int (nI i)), (3, .int (nI i)), (0, .ref (g 0)), (1, .int (nI u))]) hx hb dX5_best_103 rfl hl (by decide) rfl (fun ls hl => ?_)
                refine lv_iinc (v := nI (i + 1)) (lv' := [(3, .int (nI (i + 1))), (2, .int (nI i)), (0, .ref (g 0)), (1, .int (nI u))]) hx hb dX5_best_104 hl (k := 1) rfl (m_inc _) (by decide) rfl (fun ls hl => ?_)
                refine lv_goto (tgt := 23) hx hb dX5_best_107 (by decide) ?_
                exact ih23 (i + 1) (by omega) _ _ _ ⟨hM, hw⟩ hS _ (by rw [mbA, if_neg c43, if_neg c58, if_neg (by rw [c76]; decide), hn9]; simp only [c99, if_true, if_false, true_and, and_true, false_and, and_false, not_true_eq_false, not_false_eq_true, reduceCtorEq, eq_self_iff_true, and_self, Bool.false_eq_true, Bool.not_eq_true]; rfl) ls (lv_sub hl [0, 1, 2, 3] rfl)
          · have c76 := bI_t c76
            refine lv_goto (tgt := 104) hx hb dX5_best_79 (by decide) ?_
            refine lv_iinc (v := nI (i + 1)) (lv' := [(3, .int (nI (i + 1))), (2, .int x2), (0, .ref (g 0)), (1, .int (nI u))]) hx hb dX5_best_104 hl (k := 0) rfl (m_inc _) (by decide) rfl (fun ls hl => ?_)
            refine lv_goto (tgt := 23) hx hb dX5_best_107 (by decide) ?_
            exact ih23 (i + 1) (by omega) _ _ _ ⟨hM, hw⟩ hS _ (by rw [mbA, if_neg c43, if_neg c58, if_pos c76, ex2]) ls (lv_sub hl [0, 1, 2, 3] rfl)
  exact lp23 (kR σ) 0 (by omega) _ _ _ ⟨hM, hw⟩ hS _ (rfl) ls (lv_sub hl [0, 1, 2, 3] rfl)
set_option maxHeartbeats 4000000 in
set_option maxRecDepth 100000 in
theorem m_bestB (l : Launch) (E : gE) (A : Nat → Prop) (g : Nat → Nat) (M : gM) (σ : Sg) (th : Int32) (hv : VS σ) (hw : MW E g M σ th) (x : Int32) (hbad : ¬ (0 ≤ x ∧ x < nI (kU σ))) : Met l yX5_best wsX5_best ({ frames := 2, cells := 0, slots := 0, locals := 43 } : Room) (Pm E [.ref (g 0), .int x] (mP E A g M)) (QW (some (.int 0)) (fun H => ∃ M', mP E A g M' H ∧ MW E g M' σ 1) A) 0 0 A := by
  refine m_entry (by decide) rfl (Nat.le_of_ble_eq_true rfl) ?_
  intro p e s m args below meth c hx hb hr hml hts hown hlocks hin hM hK ls hl
  have hl : lv_has ls 4 [(0, .ref (g 0)), (1, .int x)] := hl
  have hown : s.vm.findClass RX5 = some m.cls := hown
  have hS : va_S A s.heap s.heap [] := va_S.rf
  skip
  obtain ⟨⟨hR9, hG9, hU9, hD9⟩, -⟩ := id hv
  obtain ⟨f1, m1, hf1⟩ := MW.house hw
  obtain ⟨f2, m2, hf2⟩ := MW.joined hw
  obtain ⟨f3, m3, hf3⟩ := MW.spooks hw
  obtain ⟨f4, m4, hf4⟩ := MW.people hw
  obtain ⟨f5, m5, hf5⟩ := MW.numbers hw
  refine lv_aload_n hx hb dX5_best_0 rfl (lv_at hl 0 rfl) ?_
  refine lv_iconst (v := 0) hx hb dX5_best_1 (by decide) ?_
  refine m_put hx hb hts in_X5_best_X5 tyX5 tyX5_ok nmX5 hown hK hM hS (MW.x hw) rfl 0 (by decide) (by decide +kernel) rfl (tyX5_ok 0 (by decide)) rfl rfl (Nat.le_of_ble_eq_true rfl) dX5_best_2 (fun H locs hM hz hS => ?_)
  obtain ⟨M, hM, hw⟩ : ∃ M', mP E A g M' H ∧ MW E g M' σ 0 := ⟨_, hM, MW.setTh hw _⟩
  obtain ⟨f1, m1, hf1⟩ := MW.house hw
  obtain ⟨f2, m2, hf2⟩ := MW.joined hw
  obtain ⟨f3, m3, hf3⟩ := MW.spooks hw
  obtain ⟨f4, m4, hf4⟩ := MW.people hw
  obtain ⟨f5, m5, hf5⟩ := MW.numbers hw
  refine lv_aload_n hx hb dX5_best_5 rfl (lv_at hl 0 rfl) ?_
  refine lv_iload_n hx hb dX5_best_6 rfl (lv_at hl 1 rfl) ?_
  refine m_cV 1 [.int x] [] hx hb hml hown hts hK (c_misGuest l E A g M σ 0 hv hw x) gX5_best_X5_isGuest rfl rfl rfl (by decide +kernel) rfl ⟨Nat.le_of_ble_eq_true rfl, Nat.le_of_ble_eq_true rfl⟩ hM (MW.x hw) rfl rfl hM hl.1 (Nat.le_of_ble_eq_true rfl) ⟨Nat.le_of_ble_eq_true rfl, Nat.le_of_ble_eq_true rfl⟩ rfl dX5_best_7 ?_
  refine lv_if_ne (tgt := 19) hx hb dX5_best_10 (by decide) (fun c9 => absurd (of_decide_eq_true (bI_t c9)) hbad) (fun c10 => ?_)
  have c10 := of_decide_eq_false (bI_f c10)
  refine lv_aload_n hx hb dX5_best_13 rfl (lv_at hl 0 rfl) ?_
  refine lv_iconst (v := 1) hx hb dX5_best_14 (by decide) ?_
  refine m_wV 1 [.int 1] [] hx hb hml hown hts hK (c_fail l E A g M σ 0 hw 1) gX5_best_X5_fail rfl rfl rfl (by decide +kernel) rfl ⟨Nat.le_of_ble_eq_true rfl, Nat.le_of_ble_eq_true rfl⟩ hM (MW.x hw) rfl rfl hM hl.1 (Nat.le_of_ble_eq_true rfl) ⟨Nat.le_of_ble_eq_true rfl, Nat.le_of_ble_eq_true rfl⟩ rfl dX5_best_15 hS (fun _ _ h => h) (fun _ h => h) (fun H locs hQ hz hk hS => ?_)
  refine W.eq (g2 := F0 m 18 ls [.int 0]) rfl ?_
  obtain ⟨M, hM, hw⟩ := hQ
  obtain ⟨f1, m1, hf1⟩ := MW.house hw
  obtain ⟨f2, m2, hf2⟩ := MW.joined hw
  obtain ⟨f3, m3, hf3⟩ := MW.spooks hw
  obtain ⟨f4, m4, hf4⟩ := MW.people hw
  obtain ⟨f5, m5, hf5⟩ := MW.numbers hw
  exact w_i hx hb hr hlocks dX5_best_18 hS (Nat.le_of_ble_eq_true rfl) (Nat.le_of_ble_eq_true rfl) (by first | rfl | assumption) (⟨_, hM, hw⟩)
theorem upd_up1 {f v : Nat → Int32} {a i : Nat} {x : Int32} (h : ∀ r, r < a → f r = v r) (hi : i < 2 ^ 31) (r : Nat) (hr : r < a) : upd f (nI i).toNatClampNeg x r = (fun r => if r = i then x else v r) r := by
  rw [nI_clamp hi]
  show _ = if r = i then x else v r
  by_cases e : r = i
  · subst e; rw [pk_us, if_pos rfl]
  · rw [pk_un e, if_neg e]; exact h r hr
/-- a new door -/
def drS (σ : Sg) (a b : Nat) : Sg := uK (uJ (uJ σ a (sJn σ a ||| (1 <<< (nI b &&& 31)))) b (sJn σ b ||| (1 <<< (nI a &&& 31)))) (kR σ) (kG σ) (kU σ) (kD σ + 1)
theorem in_X5_door_X5 : ∀ w ∈ u_ws RX5 TX5 11, w ∈ wsX5_door := by decide +kernel
set_option maxHeartbeats 4000000 in
set_option maxRecDepth 100000 in
theorem m_door1 (l : Launch) (E : gE) (A : Nat → Prop) (g : Nat → Nat) (M : gM) (σ : Sg) (th : Int32) (hv : VS σ) (hw : MW E g M σ th) (x y : Int32) (hbad : ¬ ((0 ≤ x ∧ x < nI (kR σ)) ∧ (0 ≤ y ∧ y < nI (kR σ)))) : Met l yX5_door wsX5_door ({ frames := 2, cells := 0, slots := 0, locals := 43 } : Room) (Pm E [.ref (g 0), .int x, .int y] (mP E A g M)) (QW (some (.int 0)) (fun H => ∃ M', mP E A g M' H ∧ MW E g M' σ 1) A) 0 0 A := by
  refine m_entry (by decide) rfl (Nat.le_of_ble_eq_true rfl) ?_
  intro p e s m args below meth c hx hb hr hml hts hown hlocks hin hM hK ls hl
  have hl : lv_has ls 3 [(0, .ref (g 0)), (1, .int x), (2, .int y)] := hl
  have hown : s.vm.findClass RX5 = some m.cls := hown
  have hS : va_S A s.heap s.heap [] := va_S.rf
  skip
  obtain ⟨⟨hR9, hG9, hU9, hD9⟩, -⟩ := id hv
  obtain ⟨f1, m1, hf1⟩ := MW.house hw
  obtain ⟨f2, m2, hf2⟩ := MW.joined hw
  obtain ⟨f3, m3, hf3⟩ := MW.spooks hw
  obtain ⟨f4, m4, hf4⟩ := MW.people hw
  obtain ⟨f5, m5, hf5⟩ := MW.numbers hw
  refine lv_aload_n hx hb dX5_door_0 rfl (lv_at hl 0 rfl) ?_
  refine lv_iconst (v := 0) hx hb dX5_door_1 (by decide) ?_
  refine m_put hx hb hts in_X5_door_X5 tyX5 tyX5_ok nmX5 hown hK hM hS (MW.x hw) rfl 0 (by decide) (by decide +kernel) rfl (tyX5_ok 0 (by decide)) rfl rfl (Nat.le_of_ble_eq_true rfl) dX5_door_2 (fun H locs hM hz hS => ?_)
  obtain ⟨M, hM, hw⟩ : ∃ M', mP E A g M' H ∧ MW E g M' σ 0 := ⟨_, hM, MW.setTh hw _⟩
  obtain ⟨f1, m1, hf1⟩ := MW.house hw
  obtain ⟨f2, m2, hf2⟩ := MW.joined hw
  obtain ⟨f3, m3, hf3⟩ := MW.spooks hw
  obtain ⟨f4, m4, hf4⟩ := MW.people hw
  obtain ⟨f5, m5, hf5⟩ := MW.numbers hw
  refine lv_aload_n hx hb dX5_door_5 rfl (lv_at hl 0 rfl) ?_
  refine lv_iload_n hx hb dX5_door_6 rfl (lv_at hl 1 rfl) ?_
  refine m_cV 1 [.int x] [] hx hb hml hown hts hK (c_misRoom l E A g M σ 0 hv hw x) gX5_door_X5_isRoom rfl rfl rfl (by decide +kernel) rfl ⟨Nat.le_of_ble_eq_true rfl, Nat.le_of_ble_eq_true rfl⟩ hM (MW.x hw) rfl rfl hM hl.1 (Nat.le_of_ble_eq_true rfl) ⟨Nat.le_of_ble_eq_true rfl, Nat.le_of_ble_eq_true rfl⟩ rfl dX5_door_7 ?_
  refine lv_if_eq (tgt := 21) hx hb dX5_door_10 (by decide) (fun c10 => ?_) (fun c10 => ?_)
  · have c10 := of_decide_eq_false (bI_f c10)
    refine lv_aload_n hx hb dX5_door_21 rfl (lv_at hl 0 rfl) ?_
    refine lv_iconst (v := 1) hx hb dX5_door_22 (by decide) ?_
    refine m_wV 1 [.int 1] [] hx hb hml hown hts hK (c_fail l E A g M σ 0 hw 1) gX5_door_X5_fail rfl rfl rfl (by decide +kernel) rfl ⟨Nat.le_of_ble_eq_true rfl, Nat.le_of_ble_eq_true rfl⟩ hM (MW.x hw) rfl rfl hM hl.1 (Nat.le_of_ble_eq_true rfl) ⟨Nat.le_of_ble_eq_true rfl, Nat.le_of_ble_eq_true rfl⟩ rfl dX5_door_23 hS (fun _ _ h => h) (fun _ h => h) (fun H locs hQ hz hk hS => ?_)
    refine W.eq (g2 := F0 m 26 ls [.int 0]) rfl ?_
    obtain ⟨M, hM, hw⟩ := hQ
    obtain ⟨f1, m1, hf1⟩ := MW.house hw
    obtain ⟨f2, m2, hf2⟩ := MW.joined hw
    obtain ⟨f3, m3, hf3⟩ := MW.spooks hw
    obtain ⟨f4, m4, hf4⟩ := MW.people hw
    obtain ⟨f5, m5, hf5⟩ := MW.numbers hw
    exact w_i hx hb hr hlocks dX5_door_26 hS (Nat.le_of_ble_eq_true rfl) (Nat.le_of_ble_eq_true rfl) (by first | rfl | assumption) (⟨_, hM, hw⟩)
  · have c10 := of_decide_eq_true (bI_t c10)
    refine lv_aload_n hx hb dX5_door_13 rfl (lv_at hl 0 rfl) ?_
    refine lv_iload_n hx hb dX5_door_14 rfl (lv_at hl 2 rfl) ?_
    refine m_cV 1 [.int y] [] hx hb hml hown hts hK (c_misRoom l E A g M σ 0 hv hw y) gX5_door_X5_isRoom rfl rfl rfl (by decide +kernel) rfl ⟨Nat.le_of_ble_eq_true rfl, Nat.le_of_ble_eq_true rfl⟩ hM (MW.x hw) rfl rfl hM hl.1 (Nat.le_of_ble_eq_true rfl) ⟨Nat.le_of_ble_eq_true rfl, Nat.le_of_ble_eq_true rfl⟩ rfl dX5_door_15 ?_
    refine lv_if_ne (tgt := 27) hx hb dX5_door_18 (by decide) (fun c9 => absurd ⟨c10, of_decide_eq_true (bI_t c9)⟩ hbad) (fun c18 => ?_)
    have c18 := of_decide_eq_false (bI_f c18)
    refine lv_aload_n hx hb dX5_door_21 rfl (lv_at hl 0 rfl) ?_
    refine lv_iconst (v := 1) hx hb dX5_door_22 (by decide) ?_
    refine m_wV 1 [.int 1] [] hx hb hml hown hts hK (c_fail l E A g M σ 0 hw 1) gX5_door_X5_fail rfl rfl rfl (by decide +kernel) rfl ⟨Nat.le_of_ble_eq_true rfl, Nat.le_of_ble_eq_true rfl⟩ hM (MW.x hw) rfl rfl hM hl.1 (Nat.le_of_ble_eq_true rfl) ⟨Nat.le_of_ble_eq_true rfl, Nat.le_of_ble_eq_true rfl⟩ rfl dX5_door_23 hS (fun _ _ h => h) (fun _ h => h) (fun H locs hQ hz hk hS => ?_)
    refine W.eq (g2 := F0 m 26 ls [.int 0]) rfl ?_
    obtain ⟨M, hM, hw⟩ := hQ
    obtain ⟨f1, m1, hf1⟩ := MW.house hw
    obtain ⟨f2, m2, hf2⟩ := MW.joined hw
    obtain ⟨f3, m3, hf3⟩ := MW.spooks hw
    obtain ⟨f4, m4, hf4⟩ := MW.people hw
    obtain ⟨f5, m5, hf5⟩ := MW.numbers hw
    exact w_i hx hb hr hlocks dX5_door_26 hS (Nat.le_of_ble_eq_true rfl) (Nat.le_of_ble_eq_true rfl) (by first | rfl | assumption) (⟨_, hM, hw⟩)
set_option maxHeartbeats 4000000 in
set_option maxRecDepth 100000 in
theorem m_door2 (l : Launch) (E : gE) (A : Nat → Prop) (g : Nat → Nat) (M : gM) (σ : Sg) (th : Int32) (hv : VS σ) (hw : MW E g M σ th) (a : Nat) (ha : a < kR σ) : Met l yX5_door wsX5_door ({ frames := 2, cells := 0, slots := 0, locals := 43 } : Room) (Pm E [.ref (g 0), .int (nI a), .int (nI a)] (mP E A g M)) (QW (some (.int 0)) (fun H => ∃ M', mP E A g M' H ∧ MW E g M' σ 2) A) 0 0 A := by
  refine m_entry (by decide) rfl (Nat.le_of_ble_eq_true rfl) ?_
  intro p e s m args below meth c hx hb hr hml hts hown hlocks hin hM hK ls hl
  have hl : lv_has ls 3 [(0, .ref (g 0)), (1, .int (nI a)), (2, .int (nI a))] := hl
  have hown : s.vm.findClass RX5 = some m.cls := hown
  have hS : va_S A s.heap s.heap [] := va_S.rf
  skip
  obtain ⟨⟨hR9, hG9, hU9, hD9⟩, -⟩ := id hv
  obtain ⟨f1, m1, hf1⟩ := MW.house hw
  obtain ⟨f2, m2, hf2⟩ := MW.joined hw
  obtain ⟨f3, m3, hf3⟩ := MW.spooks hw
  obtain ⟨f4, m4, hf4⟩ := MW.people hw
  obtain ⟨f5, m5, hf5⟩ := MW.numbers hw
  refine lv_aload_n hx hb dX5_door_0 rfl (lv_at hl 0 rfl) ?_
  refine lv_iconst (v := 0) hx hb dX5_door_1 (by decide) ?_
  refine m_put hx hb hts in_X5_door_X5 tyX5 tyX5_ok nmX5 hown hK hM hS (MW.x hw) rfl 0 (by decide) (by decide +kernel) rfl (tyX5_ok 0 (by decide)) rfl rfl (Nat.le_of_ble_eq_true rfl) dX5_door_2 (fun H locs hM hz hS => ?_)
  obtain ⟨M, hM, hw⟩ : ∃ M', mP E A g M' H ∧ MW E g M' σ 0 := ⟨_, hM, MW.setTh hw _⟩
  obtain ⟨f1, m1, hf1⟩ := MW.house hw
  obtain ⟨f2, m2, hf2⟩ := MW.joined hw
  obtain ⟨f3, m3, hf3⟩ := MW.spooks hw
  obtain ⟨f4, m4, hf4⟩ := MW.people hw
  obtain ⟨f5, m5, hf5⟩ := MW.numbers hw
  refine lv_aload_n hx hb dX5_door_5 rfl (lv_at hl 0 rfl) ?_
  refine lv_iload_n hx hb dX5_door_6 rfl (lv_at hl 1 rfl) ?_
  refine m_cV 1 [.int (nI a)] [] hx hb hml hown hts hK (c_misRoomY l E A g M σ 0 hv hw a (by omega)) gX5_door_X5_isRoom rfl rfl rfl (by decide +kernel) rfl ⟨Nat.le_of_ble_eq_true rfl, Nat.le_of_ble_eq_true rfl⟩ hM (MW.x hw) rfl rfl hM hl.1 (Nat.le_of_ble_eq_true rfl) ⟨Nat.le_of_ble_eq_true rfl, Nat.le_of_ble_eq_true rfl⟩ rfl dX5_door_7 ?_
  refine lv_if_eq (tgt := 21) hx hb dX5_door_10 (by decide) (fun c9 => absurd c9 (by decide)) (fun c9 => ?_)
  refine lv_aload_n hx hb dX5_door_13 rfl (lv_at hl 0 rfl) ?_
  refine lv_iload_n hx hb dX5_door_14 rfl (lv_at hl 2 rfl) ?_
  refine m_cV 1 [.int (nI a)] [] hx hb hml hown hts hK (c_misRoomY l E A g M σ 0 hv hw a (by omega)) gX5_door_X5_isRoom rfl rfl rfl (by decide +kernel) rfl ⟨Nat.le_of_ble_eq_true rfl, Nat.le_of_ble_eq_true rfl⟩ hM (MW.x hw) rfl rfl hM hl.1 (Nat.le_of_ble_eq_true rfl) ⟨Nat.le_of_ble_eq_true rfl, Nat.le_of_ble_eq_true rfl⟩ rfl dX5_door_15 ?_
  refine lv_if_ne (tgt := 27) hx hb dX5_door_18 (by decide) (fun c9 => ?_) (fun c9 => absurd c9 (by decide))
  refine lv_iload_n hx hb dX5_door_27 rfl (lv_at hl 1 rfl) ?_
  refine lv_iload_n hx hb dX5_door_28 rfl (lv_at hl 2 rfl) ?_
  refine lv_icmp_ne (tgt := 38) hx hb dX5_door_29 (by decide) (fun c9 => absurd rfl c9) (fun c29 => ?_)
  refine lv_aload_n hx hb dX5_door_32 rfl (lv_at hl 0 rfl) ?_
  refine lv_iconst (v := 2) hx hb dX5_door_33 (by decide) ?_
  refine m_wV 1 [.int 2] [] hx hb hml hown hts hK (c_fail l E A g M σ 0 hw 2) gX5_door_X5_fail rfl rfl rfl (by decide +kernel) rfl ⟨Nat.le_of_ble_eq_true rfl, Nat.le_of_ble_eq_true rfl⟩ hM (MW.x hw) rfl rfl hM hl.1 (Nat.le_of_ble_eq_true rfl) ⟨Nat.le_of_ble_eq_true rfl, Nat.le_of_ble_eq_true rfl⟩ rfl dX5_door_34 hS (fun _ _ h => h) (fun _ h => h) (fun H locs hQ hz hk hS => ?_)
  refine W.eq (g2 := F0 m 37 ls [.int 0]) rfl ?_
  obtain ⟨M, hM, hw⟩ := hQ
  obtain ⟨f1, m1, hf1⟩ := MW.house hw
  obtain ⟨f2, m2, hf2⟩ := MW.joined hw
  obtain ⟨f3, m3, hf3⟩ := MW.spooks hw
  obtain ⟨f4, m4, hf4⟩ := MW.people hw
  obtain ⟨f5, m5, hf5⟩ := MW.numbers hw
  exact w_i hx hb hr hlocks dX5_door_37 hS (Nat.le_of_ble_eq_true rfl) (Nat.le_of_ble_eq_true rfl) (by first | rfl | assumption) (⟨_, hM, hw⟩)
set_option maxHeartbeats 4000000 in
set_option maxRecDepth 100000 in
theorem m_door0 (l : Launch) (E : gE) (A : Nat → Prop) (g : Nat → Nat) (M : gM) (σ : Sg) (th : Int32) (hv : VS σ) (hw : MW E g M σ th) (a b : Nat) (ha : a < kR σ) (hb9 : b < kR σ) (hab : ¬ a = b) (hbit : bitAt (sJn σ a) b = true) : Met l yX5_door wsX5_door ({ frames := 2, cells := 0, slots := 0, locals := 43 } : Room) (Pm E [.ref (g 0), .int (nI a), .int (nI b)] (mP E A g M)) (QW (some (.int (nI (kD σ)))) (fun H => ∃ M', mP E A g M' H ∧ MW E g M' σ 0) A) 0 0 A := by
  refine m_entry (by decide) rfl (Nat.le_of_ble_eq_true rfl) ?_
  intro p e s m args below meth c hx hb hr hml hts hown hlocks hin hM hK ls hl
  have hl : lv_has ls 3 [(0, .ref (g 0)), (1, .int (nI a)), (2, .int (nI b))] := hl
  have hown : s.vm.findClass RX5 = some m.cls := hown
  have hS : va_S A s.heap s.heap [] := va_S.rf
  skip
  obtain ⟨⟨hR9, hG9, hU9, hD9⟩, -⟩ := id hv
  obtain ⟨f1, m1, hf1⟩ := MW.house hw
  obtain ⟨f2, m2, hf2⟩ := MW.joined hw
  obtain ⟨f3, m3, hf3⟩ := MW.spooks hw
  obtain ⟨f4, m4, hf4⟩ := MW.people hw
  obtain ⟨f5, m5, hf5⟩ := MW.numbers hw
  refine lv_aload_n hx hb dX5_door_0 rfl (lv_at hl 0 rfl) ?_
  refine lv_iconst (v := 0) hx hb dX5_door_1 (by decide) ?_
  refine m_put hx hb hts in_X5_door_X5 tyX5 tyX5_ok nmX5 hown hK hM hS (MW.x hw) rfl 0 (by decide) (by decide +kernel) rfl (tyX5_ok 0 (by decide)) rfl rfl (Nat.le_of_ble_eq_true rfl) dX5_door_2 (fun H locs hM hz hS => ?_)
  obtain ⟨M, hM, hw⟩ : ∃ M', mP E A g M' H ∧ MW E g M' σ 0 := ⟨_, hM, MW.setTh hw _⟩
  obtain ⟨f1, m1, hf1⟩ := MW.house hw
  obtain ⟨f2, m2, hf2⟩ := MW.joined hw
  obtain ⟨f3, m3, hf3⟩ := MW.spooks hw
  obtain ⟨f4, m4, hf4⟩ := MW.people hw
  obtain ⟨f5, m5, hf5⟩ := MW.numbers hw
  refine lv_aload_n hx hb dX5_door_5 rfl (lv_at hl 0 rfl) ?_
  refine lv_iload_n hx hb dX5_door_6 rfl (lv_at hl 1 rfl) ?_
  refine m_cV 1 [.int (nI a)] [] hx hb hml hown hts hK (c_misRoomY l E A g M σ 0 hv hw a (by omega)) gX5_door_X5_isRoom rfl rfl rfl (by decide +kernel) rfl ⟨Nat.le_of_ble_eq_true rfl, Nat.le_of_ble_eq_true rfl⟩ hM (MW.x hw) rfl rfl hM hl.1 (Nat.le_of_ble_eq_true rfl) ⟨Nat.le_of_ble_eq_true rfl, Nat.le_of_ble_eq_true rfl⟩ rfl dX5_door_7 ?_
  refine lv_if_eq (tgt := 21) hx hb dX5_door_10 (by decide) (fun c9 => absurd c9 (by decide)) (fun c9 => ?_)
  refine lv_aload_n hx hb dX5_door_13 rfl (lv_at hl 0 rfl) ?_
  refine lv_iload_n hx hb dX5_door_14 rfl (lv_at hl 2 rfl) ?_
  refine m_cV 1 [.int (nI b)] [] hx hb hml hown hts hK (c_misRoomY l E A g M σ 0 hv hw b (by omega)) gX5_door_X5_isRoom rfl rfl rfl (by decide +kernel) rfl ⟨Nat.le_of_ble_eq_true rfl, Nat.le_of_ble_eq_true rfl⟩ hM (MW.x hw) rfl rfl hM hl.1 (Nat.le_of_ble_eq_true rfl) ⟨Nat.le_of_ble_eq_true rfl, Nat.le_of_ble_eq_true rfl⟩ rfl dX5_door_15 ?_
  refine lv_if_ne (tgt := 27) hx hb dX5_door_18 (by decide) (fun c9 => ?_) (fun c9 => absurd c9 (by decide))
  refine lv_iload_n hx hb dX5_door_27 rfl (lv_at hl 1 rfl) ?_
  refine lv_iload_n hx hb dX5_door_28 rfl (lv_at hl 2 rfl) ?_
  refine lv_icmp_ne (tgt := 38) hx hb dX5_door_29 (by decide) (fun c29 => ?_) (fun c9 => absurd ((nI_eq (by omega) (by omega)).mp c9) hab)
  refine lv_aload_n hx hb dX5_door_38 rfl (lv_at hl 0 rfl) ?_
  refine m_get hx hb hts in_X5_door_X5 hown hK hM (MW.x hw) rfl 6 (by decide) (by decide +kernel) rfl dX5_door_39 ?_
  refine lv_iload_n hx hb dX5_door_42 rfl (lv_at hl 1 rfl) ?_
  refine m_iald (v := sJn σ a) hx hb hK hM m2 (ix_ok (by omega)) (rd_ok (by omega) (hf2 a (by omega))) dX5_door_43 ?_
  refine lv_iload_n hx hb dX5_door_44 rfl (lv_at hl 2 rfl) ?_
  refine lv_ishr hx hb dX5_door_45 ?_
  refine lv_iconst (v := 1) hx hb dX5_door_46 (by decide) ?_
  refine lv_iand hx hb dX5_door_47 ?_
  refine lv_iconst (v := 1) hx hb dX5_door_48 (by decide) ?_
  refine lv_icmp_ne (tgt := 57) hx hb dX5_door_49 (by decide) (fun c9 => absurd (of_decide_eq_true hbit) c9) (fun c49 => ?_)
  refine lv_aload_n hx hb dX5_door_52 rfl (lv_at hl 0 rfl) ?_
  refine m_get hx hb hts in_X5_door_X5 hown hK hM (MW.x hw) rfl 2 (by decide) (by decide +kernel) rfl dX5_door_53 ?_
  exact w_i hx hb hr hlocks dX5_door_56 hS (Nat.le_of_ble_eq_true rfl) (Nat.le_of_ble_eq_true rfl) (by first | rfl | assumption) (⟨_, hM, hw⟩)
set_option maxHeartbeats 4000000 in
set_option maxRecDepth 100000 in
theorem m_door3 (l : Launch) (E : gE) (A : Nat → Prop) (g : Nat → Nat) (M : gM) (σ : Sg) (th : Int32) (hv : VS σ) (hw : MW E g M σ th) (a b : Nat) (ha : a < kR σ) (hb9 : b < kR σ) (hab : ¬ a = b) (hbit : bitAt (sJn σ a) b = false) (hfull : kD σ = 20) : Met l yX5_door wsX5_door ({ frames := 2, cells := 0, slots := 0, locals := 43 } : Room) (Pm E [.ref (g 0), .int (nI a), .int (nI b)] (mP E A g M)) (QW (some (.int 0)) (fun H => ∃ M', mP E A g M' H ∧ MW E g M' σ 3) A) 0 0 A := by
  refine m_entry (by decide) rfl (Nat.le_of_ble_eq_true rfl) ?_
  intro p e s m args below meth c hx hb hr hml hts hown hlocks hin hM hK ls hl
  have hl : lv_has ls 3 [(0, .ref (g 0)), (1, .int (nI a)), (2, .int (nI b))] := hl
  have hown : s.vm.findClass RX5 = some m.cls := hown
  have hS : va_S A s.heap s.heap [] := va_S.rf
  skip
  obtain ⟨⟨hR9, hG9, hU9, hD9⟩, -⟩ := id hv
  obtain ⟨f1, m1, hf1⟩ := MW.house hw
  obtain ⟨f2, m2, hf2⟩ := MW.joined hw
  obtain ⟨f3, m3, hf3⟩ := MW.spooks hw
  obtain ⟨f4, m4, hf4⟩ := MW.people hw
  obtain ⟨f5, m5, hf5⟩ := MW.numbers hw
  refine lv_aload_n hx hb dX5_door_0 rfl (lv_at hl 0 rfl) ?_
  refine lv_iconst (v := 0) hx hb dX5_door_1 (by decide) ?_
  refine m_put hx hb hts in_X5_door_X5 tyX5 tyX5_ok nmX5 hown hK hM hS (MW.x hw) rfl 0 (by decide) (by decide +kernel) rfl (tyX5_ok 0 (by decide)) rfl rfl (Nat.le_of_ble_eq_true rfl) dX5_door_2 (fun H locs hM hz hS => ?_)
  obtain ⟨M, hM, hw⟩ : ∃ M', mP E A g M' H ∧ MW E g M' σ 0 := ⟨_, hM, MW.setTh hw _⟩
  obtain ⟨f1, m1, hf1⟩ := MW.house hw
  obtain ⟨f2, m2, hf2⟩ := MW.joined hw
  obtain ⟨f3, m3, hf3⟩ := MW.spooks hw
  obtain ⟨f4, m4, hf4⟩ := MW.people hw
  obtain ⟨f5, m5, hf5⟩ := MW.numbers hw
  refine lv_aload_n hx hb dX5_door_5 rfl (lv_at hl 0 rfl) ?_
  refine lv_iload_n hx hb dX5_door_6 rfl (lv_at hl 1 rfl) ?_
  refine m_cV 1 [.int (nI a)] [] hx hb hml hown hts hK (c_misRoomY l E A g M σ 0 hv hw a (by omega)) gX5_door_X5_isRoom rfl rfl rfl (by decide +kernel) rfl ⟨Nat.le_of_ble_eq_true rfl, Nat.le_of_ble_eq_true rfl⟩ hM (MW.x hw) rfl rfl hM hl.1 (Nat.le_of_ble_eq_true rfl) ⟨Nat.le_of_ble_eq_true rfl, Nat.le_of_ble_eq_true rfl⟩ rfl dX5_door_7 ?_
  refine lv_if_eq (tgt := 21) hx hb dX5_door_10 (by decide) (fun c9 => absurd c9 (by decide)) (fun c9 => ?_)
  refine lv_aload_n hx hb dX5_door_13 rfl (lv_at hl 0 rfl) ?_
  refine lv_iload_n hx hb dX5_door_14 rfl (lv_at hl 2 rfl) ?_
  refine m_cV 1 [.int (nI b)] [] hx hb hml hown hts hK (c_misRoomY l E A g M σ 0 hv hw b (by omega)) gX5_door_X5_isRoom rfl rfl rfl (by decide +kernel) rfl ⟨Nat.le_of_ble_eq_true rfl, Nat.le_of_ble_eq_true rfl⟩ hM (MW.x hw) rfl rfl hM hl.1 (Nat.le_of_ble_eq_true rfl) ⟨Nat.le_of_ble_eq_true rfl, Nat.le_of_ble_eq_true rfl⟩ rfl dX5_door_15 ?_
  refine lv_if_ne (tgt := 27) hx hb dX5_door_18 (by decide) (fun c9 => ?_) (fun c9 => absurd c9 (by decide))
  refine lv_iload_n hx hb dX5_door_27 rfl (lv_at hl 1 rfl) ?_
  refine lv_iload_n hx hb dX5_door_28 rfl (lv_at hl 2 rfl) ?_
  refine lv_icmp_ne (tgt := 38) hx hb dX5_door_29 (by decide) (fun c29 => ?_) (fun c9 => absurd ((nI_eq (by omega) (by omega)).mp c9) hab)
  refine lv_aload_n hx hb dX5_door_38 rfl (lv_at hl 0 rfl) ?_
  refine m_get hx hb hts in_X5_door_X5 hown hK hM (MW.x hw) rfl 6 (by decide) (by decide +kernel) rfl dX5_door_39 ?_
  refine lv_iload_n hx hb dX5_door_42 rfl (lv_at hl 1 rfl) ?_
  refine m_iald (v := sJn σ a) hx hb hK hM m2 (ix_ok (by omega)) (rd_ok (by omega) (hf2 a (by omega))) dX5_door_43 ?_
  refine lv_iload_n hx hb dX5_door_44 rfl (lv_at hl 2 rfl) ?_
  refine lv_ishr hx hb dX5_door_45 ?_
  refine lv_iconst (v := 1) hx hb dX5_door_46 (by decide) ?_
  refine lv_iand hx hb dX5_door_47 ?_
  refine lv_iconst (v := 1) hx hb dX5_door_48 (by decide) ?_
  refine lv_icmp_ne (tgt := 57) hx hb dX5_door_49 (by decide) (fun c49 => ?_) (fun c9 => absurd (decide_eq_true c9) (by show ¬ bitAt (sJn σ a) b = true; rw [hbit]; decide))
  refine lv_aload_n hx hb dX5_door_57 rfl (lv_at hl 0 rfl) ?_
  refine m_get hx hb hts in_X5_door_X5 hown hK hM (MW.x hw) rfl 2 (by decide) (by decide +kernel) rfl dX5_door_58 ?_
  refine lv_bipush (v := 20) hx hb dX5_door_61 (by decide) ?_
  refine lv_icmp_ne (tgt := 72) hx hb dX5_door_63 (by decide) (fun c9 => absurd (by rw [hfull]; rfl) c9) (fun c63 => ?_)
  refine lv_aload_n hx hb dX5_door_66 rfl (lv_at hl 0 rfl) ?_
  refine lv_iconst (v := 3) hx hb dX5_door_67 (by decide) ?_
  refine m_wV 1 [.int 3] [] hx hb hml hown hts hK (c_fail l E A g M σ 0 hw 3) gX5_door_X5_fail rfl rfl rfl (by decide +kernel) rfl ⟨Nat.le_of_ble_eq_true rfl, Nat.le_of_ble_eq_true rfl⟩ hM (MW.x hw) rfl rfl hM hl.1 (Nat.le_of_ble_eq_true rfl) ⟨Nat.le_of_ble_eq_true rfl, Nat.le_of_ble_eq_true rfl⟩ rfl dX5_door_68 hS (fun _ _ h => h) (fun _ h => h) (fun H locs hQ hz hk hS => ?_)
  refine W.eq (g2 := F0 m 71 ls [.int 0]) rfl ?_
  obtain ⟨M, hM, hw⟩ := hQ
  obtain ⟨f1, m1, hf1⟩ := MW.house hw
  obtain ⟨f2, m2, hf2⟩ := MW.joined hw
  obtain ⟨f3, m3, hf3⟩ := MW.spooks hw
  obtain ⟨f4, m4, hf4⟩ := MW.people hw
  obtain ⟨f5, m5, hf5⟩ := MW.numbers hw
  exact w_i hx hb hr hlocks dX5_door_71 hS (Nat.le_of_ble_eq_true rfl) (Nat.le_of_ble_eq_true rfl) (by first | rfl | assumption) (⟨_, hM, hw⟩)
set_option maxHeartbeats 4000000 in
set_option maxRecDepth 100000 in
theorem m_doorOk (l : Launch) (E : gE) (A : Nat → Prop) (g : Nat → Nat) (M : gM) (σ : Sg) (th : Int32) (hv : VS σ) (hw : MW E g M σ th) (a b : Nat) (ha : a < kR σ) (hb9 : b < kR σ) (hab : ¬ a = b) (hbit : bitAt (sJn σ a) b = false) (hfree : kD σ < 20) : Met l yX5_door wsX5_door ({ frames := 2, cells := 0, slots := 0, locals := 43 } : Room) (Pm E [.ref (g 0), .int (nI a), .int (nI b)] (mP E A g M)) (QW (some (.int (nI (kD σ + 1)))) (fun H => ∃ M', mP E A g M' H ∧ MW E g M' (drS σ a b) 0) A) 0 0 A := by
  refine m_entry (by decide) rfl (Nat.le_of_ble_eq_true rfl) ?_
  intro p e s m args below meth c hx hb hr hml hts hown hlocks hin hM hK ls hl
  have hl : lv_has ls 3 [(0, .ref (g 0)), (1, .int (nI a)), (2, .int (nI b))] := hl
  have hown : s.vm.findClass RX5 = some m.cls := hown
  have hS : va_S A s.heap s.heap [] := va_S.rf
  skip
  obtain ⟨⟨hR9, hG9, hU9, hD9⟩, -⟩ := id hv
  obtain ⟨f1, m1, hf1⟩ := MW.house hw
  obtain ⟨f2, m2, hf2⟩ := MW.joined hw
  obtain ⟨f3, m3, hf3⟩ := MW.spooks hw
  obtain ⟨f4, m4, hf4⟩ := MW.people hw
  obtain ⟨f5, m5, hf5⟩ := MW.numbers hw
  refine lv_aload_n hx hb dX5_door_0 rfl (lv_at hl 0 rfl) ?_
  refine lv_iconst (v := 0) hx hb dX5_door_1 (by decide) ?_
  refine m_put hx hb hts in_X5_door_X5 tyX5 tyX5_ok nmX5 hown hK hM hS (MW.x hw) rfl 0 (by decide) (by decide +kernel) rfl (tyX5_ok 0 (by decide)) rfl rfl (Nat.le_of_ble_eq_true rfl) dX5_door_2 (fun H locs hM hz hS => ?_)
  obtain ⟨M, hM, hw⟩ : ∃ M', mP E A g M' H ∧ MW E g M' σ 0 := ⟨_, hM, MW.setTh hw _⟩
  obtain ⟨f1, m1, hf1⟩ := MW.house hw
  obtain ⟨f2, m2, hf2⟩ := MW.joined hw
  obtain ⟨f3, m3, hf3⟩ := MW.spooks hw
  obtain ⟨f4, m4, hf4⟩ := MW.people hw
  obtain ⟨f5, m5, hf5⟩ := MW.numbers hw
  refine lv_aload_n hx hb dX5_door_5 rfl (lv_at hl 0 rfl) ?_
  refine lv_iload_n hx hb dX5_door_6 rfl (lv_at hl 1 rfl) ?_
  refine m_cV 1 [.int (nI a)] [] hx hb hml hown hts hK (c_misRoomY l E A g M σ 0 hv hw a (by omega)) gX5_door_X5_isRoom rfl rfl rfl (by decide +kernel) rfl ⟨Nat.le_of_ble_eq_true rfl, Nat.le_of_ble_eq_true rfl⟩ hM (MW.x hw) rfl rfl hM hl.1 (Nat.le_of_ble_eq_true rfl) ⟨Nat.le_of_ble_eq_true rfl, Nat.le_of_ble_eq_true rfl⟩ rfl dX5_door_7 ?_
  refine lv_if_eq (tgt := 21) hx hb dX5_door_10 (by decide) (fun c9 => absurd c9 (by decide)) (fun c9 => ?_)
  refine lv_aload_n hx hb dX5_door_13 rfl (lv_at hl 0 rfl) ?_
  refine lv_iload_n hx hb dX5_door_14 rfl (lv_at hl 2 rfl) ?_
  refine m_cV 1 [.int (nI b)] [] hx hb hml hown hts hK (c_misRoomY l E A g M σ 0 hv hw b (by omega)) gX5_door_X5_isRoom rfl rfl rfl (by decide +kernel) rfl ⟨Nat.le_of_ble_eq_true rfl, Nat.le_of_ble_eq_true rfl⟩ hM (MW.x hw) rfl rfl hM hl.1 (Nat.le_of_ble_eq_true rfl) ⟨Nat.le_of_ble_eq_true rfl, Nat.le_of_ble_eq_true rfl⟩ rfl dX5_door_15 ?_
  refine lv_if_ne (tgt := 27) hx hb dX5_door_18 (by decide) (fun c9 => ?_) (fun c9 => absurd c9 (by decide))
  refine lv_iload_n hx hb dX5_door_27 rfl (lv_at hl 1 rfl) ?_
  refine lv_iload_n hx hb dX5_door_28 rfl (lv_at hl 2 rfl) ?_
  refine lv_icmp_ne (tgt := 38) hx hb dX5_door_29 (by decide) (fun c29 => ?_) (fun c9 => absurd ((nI_eq (by omega) (by omega)).mp c9) hab)
  refine lv_aload_n hx hb dX5_door_38 rfl (lv_at hl 0 rfl) ?_
  refine m_get hx hb hts in_X5_door_X5 hown hK hM (MW.x hw) rfl 6 (by decide) (by decide +kernel) rfl dX5_door_39 ?_
  refine lv_iload_n hx hb dX5_door_42 rfl (lv_at hl 1 rfl) ?_
  refine m_iald (v := sJn σ a) hx hb hK hM m2 (ix_ok (by omega)) (rd_ok (by omega) (hf2 a (by omega))) dX5_door_43 ?_
  refine lv_iload_n hx hb dX5_door_44 rfl (lv_at hl 2 rfl) ?_
  refine lv_ishr hx hb dX5_door_45 ?_
  refine lv_iconst (v := 1) hx hb dX5_door_46 (by decide) ?_
  refine lv_iand hx hb dX5_door_47 ?_
  refine lv_iconst (v := 1) hx hb dX5_door_48 (by decide) ?_
  refine lv_icmp_ne (tgt := 57) hx hb dX5_door_49 (by decide) (fun c49 => ?_) (fun c9 => absurd (decide_eq_true c9) (by show ¬ bitAt (sJn σ a) b = true; rw [hbit]; decide))
  refine lv_aload_n hx hb dX5_door_57 rfl (lv_at hl 0 rfl) ?_
  refine m_get hx hb hts in_X5_door_X5 hown hK hM (MW.x hw) rfl 2 (by decide) (by decide +kernel) rfl dX5_door_58 ?_
  refine lv_bipush (v := 20) hx hb dX5_door_61 (by decide) ?_
  refine lv_icmp_ne (tgt := 72) hx hb dX5_door_63 (by decide) (fun c63 => ?_) (fun c9 => absurd ((nI_eq (b := 20) (by omega) (by decide)).mp c9) (by omega))
  refine lv_aload_n hx hb dX5_door_72 rfl (lv_at hl 0 rfl) ?_
  refine m_get hx hb hts in_X5_door_X5 hown hK hM (MW.x hw) rfl 6 (by decide) (by decide +kernel) rfl dX5_door_73 ?_
  refine lv_iload_n hx hb dX5_door_76 rfl (lv_at hl 1 rfl) ?_
  refine lv_dup2_11 hx hb dX5_door_77 rfl rfl ?_
  refine m_iald (v := sJn σ a) hx hb hK hM m2 (ix_ok (by omega)) (rd_ok (by omega) (hf2 a (by omega))) dX5_door_78 ?_
  refine lv_iconst (v := 1) hx hb dX5_door_79 (by decide) ?_
  refine lv_iload_n hx hb dX5_door_80 rfl (lv_at hl 2 rfl) ?_
  refine lv_ishl hx hb dX5_door_81 ?_
  refine lv_ior hx hb dX5_door_82 ?_
  refine m_iast hx hb hK hM hS m2 (ix_ok (by omega)) dX5_door_83 (fun H locs hM hz hS => ?_)
  obtain ⟨M, hM, hw⟩ : ∃ M', mP E A g M' H ∧ MW E g M' (uJ σ a (sJn σ a ||| (1 <<< (nI b &&& 31)))) 0 := ⟨_, hM, MW.putJ hw (upd_up1 hf2 (by omega))⟩
  obtain ⟨f1, m1, hf1⟩ := MW.house hw
  obtain ⟨f2, m2, hf2⟩ := MW.joined hw
  obtain ⟨f3, m3, hf3⟩ := MW.spooks hw
  obtain ⟨f4, m4, hf4⟩ := MW.people hw
  obtain ⟨f5, m5, hf5⟩ := MW.numbers hw
  refine lv_aload_n hx hb dX5_door_84 rfl (lv_at hl 0 rfl) ?_
  refine m_get hx hb hts in_X5_door_X5 hown hK hM (MW.x hw) rfl 6 (by decide) (by decide +kernel) rfl dX5_door_85 ?_
  refine lv_iload_n hx hb dX5_door_88 rfl (lv_at hl 2 rfl) ?_
  refine lv_dup2_11 hx hb dX5_door_89 rfl rfl ?_
  refine m_iald (v := sJn σ b) hx hb hK hM m2 (ix_ok (by omega)) (rd_ok (by omega) ((hf2 b (by omega)).trans (if_neg (fun q => hab q.symm)))) dX5_door_90 ?_
  refine lv_iconst (v := 1) hx hb dX5_door_91 (by decide) ?_
  refine lv_iload_n hx hb dX5_door_92 rfl (lv_at hl 1 rfl) ?_
  refine lv_ishl hx hb dX5_door_93 ?_
  refine lv_ior hx hb dX5_door_94 ?_
  refine m_iast hx hb hK hM hS m2 (ix_ok (by omega)) dX5_door_95 (fun H locs hM hz hS => ?_)
  obtain ⟨M, hM, hw⟩ : ∃ M', mP E A g M' H ∧ MW E g M' (uJ (uJ σ a (sJn σ a ||| (1 <<< (nI b &&& 31)))) b (sJn σ b ||| (1 <<< (nI a &&& 31)))) 0 := ⟨_, hM, MW.putJ hw (upd_up1 hf2 (by omega))⟩
  obtain ⟨f1, m1, hf1⟩ := MW.house hw
  obtain ⟨f2, m2, hf2⟩ := MW.joined hw
  obtain ⟨f3, m3, hf3⟩ := MW.spooks hw
  obtain ⟨f4, m4, hf4⟩ := MW.people hw
  obtain ⟨f5, m5, hf5⟩ := MW.numbers hw
  refine lv_aload_n hx hb dX5_door_96 rfl (lv_at hl 0 rfl) ?_
  refine lv_dup hx hb dX5_door_97 rfl ?_
  refine m_get hx hb hts in_X5_door_X5 hown hK hM (MW.x hw) rfl 2 (by decide) (by decide +kernel) rfl dX5_door_98 ?_
  refine lv_iconst (v := 1) hx hb dX5_door_101 (by decide) ?_
  refine lv_iadd hx hb dX5_door_102 ?_
  refine W.eq (g2 := F0 m 103 ls [.int ((nI (kD σ)) + 1), .ref (g 0)]) rfl ?_
  rw [show ((nI (kD σ)) + 1 : Int32) = nI (kD σ + 1) from nI_1 _]
  refine m_put hx hb hts in_X5_door_X5 tyX5 tyX5_ok nmX5 hown hK hM hS (MW.x hw) rfl 2 (by decide) (by decide +kernel) rfl (tyX5_ok 2 (by decide)) rfl rfl (Nat.le_of_ble_eq_true rfl) dX5_door_103 (fun H locs hM hz hS => ?_)
  obtain ⟨M, hM, hw⟩ : ∃ M', mP E A g M' H ∧ MW E g M' (drS σ a b) 0 := ⟨_, hM, MW.put0 (σ2 := drS σ a b) (th2 := 0) hw rfl rfl rfl rfl rfl rfl rfl⟩
  obtain ⟨f1, m1, hf1⟩ := MW.house hw
  obtain ⟨f2, m2, hf2⟩ := MW.joined hw
  obtain ⟨f3, m3, hf3⟩ := MW.spooks hw
  obtain ⟨f4, m4, hf4⟩ := MW.people hw
  obtain ⟨f5, m5, hf5⟩ := MW.numbers hw
  refine lv_aload_n hx hb dX5_door_106 rfl (lv_at hl 0 rfl) ?_
  refine m_get hx hb hts in_X5_door_X5 hown hK hM (MW.x hw) rfl 2 (by decide) (by decide +kernel) rfl dX5_door_107 ?_
  exact w_i hx hb hr hlocks dX5_door_110 hS (Nat.le_of_ble_eq_true rfl) (Nat.le_of_ble_eq_true rfl) (by first | rfl | assumption) (⟨_, hM, hw⟩)
theorem in_X5_bid_X5 : ∀ w ∈ u_ws RX5 TX5 11, w ∈ wsX5_bid := by decide +kernel
set_option maxHeartbeats 4000000 in
set_option maxRecDepth 100000 in
theorem m_bid1 (l : Launch) (E : gE) (A : Nat → Prop) (g : Nat → Nat) (M : gM) (σ : Sg) (th : Int32) (hv : VS σ) (hw : MW E g M σ th) (x y z : Int32) (hbad : ¬ ((0 ≤ x ∧ x < nI (kU σ)) ∧ (0 ≤ y ∧ y < nI (kR σ)))) : Met l yX5_bid wsX5_bid ({ frames := 2, cells := 0, slots := 0, locals := 43 } : Room) (Pm E [.ref (g 0), .int x, .int y, .int z] (mP E A g M)) (QW (some (.int (bI false))) (fun H => ∃ M', mP E A g M' H ∧ MW E g M' σ 1) A) 0 0 A := by
  refine m_entry (by decide) rfl (Nat.le_of_ble_eq_true rfl) ?_
  intro p e s m args below meth c hx hb hr hml hts hown hlocks hin hM hK ls hl
  have hl : lv_has ls 4 [(0, .ref (g 0)), (1, .int x), (2, .int y), (3, .int z)] := hl
  have hown : s.vm.findClass RX5 = some m.cls := hown
  have hS : va_S A s.heap s.heap [] := va_S.rf
  skip
  obtain ⟨⟨hR9, hG9, hU9, hD9⟩, -⟩ := id hv
  obtain ⟨f1, m1, hf1⟩ := MW.house hw
  obtain ⟨f2, m2, hf2⟩ := MW.joined hw
  obtain ⟨f3, m3, hf3⟩ := MW.spooks hw
  obtain ⟨f4, m4, hf4⟩ := MW.people hw
  obtain ⟨f5, m5, hf5⟩ := MW.numbers hw
  refine lv_aload_n hx hb dX5_bid_0 rfl (lv_at hl 0 rfl) ?_
  refine lv_aload_n hx hb dX5_bid_1 rfl (lv_at hl 0 rfl) ?_
  refine lv_iload_n hx hb dX5_bid_2 rfl (lv_at hl 1 rfl) ?_
  refine m_cV 1 [.int x] [.ref (g 0)] hx hb hml hown hts hK (c_misGuest l E A g M σ th hv hw x) gX5_bid_X5_isGuest rfl rfl rfl (by decide +kernel) rfl ⟨Nat.le_of_ble_eq_true rfl, Nat.le_of_ble_eq_true rfl⟩ hM (MW.x hw) rfl rfl hM hl.1 (Nat.le_of_ble_eq_true rfl) ⟨Nat.le_of_ble_eq_true rfl, Nat.le_of_ble_eq_true rfl⟩ rfl dX5_bid_3 ?_
  refine lv_if_eq (tgt := 17) hx hb dX5_bid_6 (by decide) (fun c6 => ?_) (fun c6 => ?_)
  · have c6 := of_decide_eq_false (bI_f c6)
    refine lv_iconst (v := 1) hx hb dX5_bid_17 (by decide) ?_
    refine lv_goto (tgt := 37) hx hb dX5_bid_18 (by decide) ?_
    refine m_put hx hb hts in_X5_bid_X5 tyX5 tyX5_ok nmX5 hown hK hM hS (MW.x hw) rfl 0 (by decide) (by decide +kernel) rfl (tyX5_ok 0 (by decide)) rfl rfl (Nat.le_of_ble_eq_true rfl) dX5_bid_37 (fun H locs hM hz hS => ?_)
    obtain ⟨M, hM, hw⟩ : ∃ M', mP E A g M' H ∧ MW E g M' σ 1 := ⟨_, hM, MW.setTh hw _⟩
    obtain ⟨f1, m1, hf1⟩ := MW.house hw
    obtain ⟨f2, m2, hf2⟩ := MW.joined hw
    obtain ⟨f3, m3, hf3⟩ := MW.spooks hw
    obtain ⟨f4, m4, hf4⟩ := MW.people hw
    obtain ⟨f5, m5, hf5⟩ := MW.numbers hw
    refine lv_aload_n hx hb dX5_bid_40 rfl (lv_at hl 0 rfl) ?_
    refine m_get hx hb hts in_X5_bid_X5 hown hK hM (MW.x hw) rfl 0 (by decide) (by decide +kernel) rfl dX5_bid_41 ?_
    refine lv_if_eq (tgt := 49) hx hb dX5_bid_44 (by decide) (fun c9 => absurd c9 (by decide)) (fun c9 => ?_)
    refine lv_iconst (v := 0) hx hb dX5_bid_47 (by decide) ?_
    exact w_z hx hb hr hlocks dX5_bid_48 hS (Nat.le_of_ble_eq_true rfl) (Nat.le_of_ble_eq_true rfl) (rfl) (⟨_, hM, hw⟩)
  · have c6 := of_decide_eq_true (bI_t c6)
    refine lv_aload_n hx hb dX5_bid_9 rfl (lv_at hl 0 rfl) ?_
    refine lv_iload_n hx hb dX5_bid_10 rfl (lv_at hl 2 rfl) ?_
    refine m_cV 1 [.int y] [.ref (g 0)] hx hb hml hown hts hK (c_misRoom l E A g M σ th hv hw y) gX5_bid_X5_isRoom rfl rfl rfl (by decide +kernel) rfl ⟨Nat.le_of_ble_eq_true rfl, Nat.le_of_ble_eq_true rfl⟩ hM (MW.x hw) rfl rfl hM hl.1 (Nat.le_of_ble_eq_true rfl) ⟨Nat.le_of_ble_eq_true rfl, Nat.le_of_ble_eq_true rfl⟩ rfl dX5_bid_11 ?_
    refine lv_if_ne (tgt := 21) hx hb dX5_bid_14 (by decide) (fun c9 => absurd ⟨c6, of_decide_eq_true (bI_t c9)⟩ hbad) (fun c14 => ?_)
    have c14 := of_decide_eq_false (bI_f c14)
    refine lv_iconst (v := 1) hx hb dX5_bid_17 (by decide) ?_
    refine lv_goto (tgt := 37) hx hb dX5_bid_18 (by decide) ?_
    refine m_put hx hb hts in_X5_bid_X5 tyX5 tyX5_ok nmX5 hown hK hM hS (MW.x hw) rfl 0 (by decide) (by decide +kernel) rfl (tyX5_ok 0 (by decide)) rfl rfl (Nat.le_of_ble_eq_true rfl) dX5_bid_37 (fun H locs hM hz hS => ?_)
    obtain ⟨M, hM, hw⟩ : ∃ M', mP E A g M' H ∧ MW E g M' σ 1 := ⟨_, hM, MW.setTh hw _⟩
    obtain ⟨f1, m1, hf1⟩ := MW.house hw
    obtain ⟨f2, m2, hf2⟩ := MW.joined hw
    obtain ⟨f3, m3, hf3⟩ := MW.spooks hw
    obtain ⟨f4, m4, hf4⟩ := MW.people hw
    obtain ⟨f5, m5, hf5⟩ := MW.numbers hw
    refine lv_aload_n hx hb dX5_bid_40 rfl (lv_at hl 0 rfl) ?_
    refine m_get hx hb hts in_X5_bid_X5 hown hK hM (MW.x hw) rfl 0 (by decide) (by decide +kernel) rfl dX5_bid_41 ?_
    refine lv_if_eq (tgt := 49) hx hb dX5_bid_44 (by decide) (fun c9 => absurd c9 (by decide)) (fun c9 => ?_)
    refine lv_iconst (v := 0) hx hb dX5_bid_47 (by decide) ?_
    exact w_z hx hb hr hlocks dX5_bid_48 hS (Nat.le_of_ble_eq_true rfl) (Nat.le_of_ble_eq_true rfl) (rfl) (⟨_, hM, hw⟩)
set_option maxHeartbeats 4000000 in
set_option maxRecDepth 100000 in
theorem m_bid2 (l : Launch) (E : gE) (A : Nat → Prop) (g : Nat → Nat) (M : gM) (σ : Sg) (th : Int32) (hv : VS σ) (hw : MW E g M σ th) (u k : Nat) (hu : u < kU σ) (hk : k < kR σ) (z : Int32) (hbad : ¬ (1 ≤ z ∧ z ≤ 200)) : Met l yX5_bid wsX5_bid ({ frames := 2, cells := 0, slots := 0, locals := 43 } : Room) (Pm E [.ref (g 0), .int (nI u), .int (nI k), .int z] (mP E A g M)) (QW (some (.int (bI false))) (fun H => ∃ M', mP E A g M' H ∧ MW E g M' σ 2) A) 0 0 A := by
  refine m_entry (by decide) rfl (Nat.le_of_ble_eq_true rfl) ?_
  intro p e s m args below meth c hx hb hr hml hts hown hlocks hin hM hK ls hl
  have hl : lv_has ls 4 [(0, .ref (g 0)), (1, .int (nI u)), (2, .int (nI k)), (3, .int z)] := hl
  have hown : s.vm.findClass RX5 = some m.cls := hown
  have hS : va_S A s.heap s.heap [] := va_S.rf
  skip
  obtain ⟨⟨hR9, hG9, hU9, hD9⟩, -⟩ := id hv
  obtain ⟨f1, m1, hf1⟩ := MW.house hw
  obtain ⟨f2, m2, hf2⟩ := MW.joined hw
  obtain ⟨f3, m3, hf3⟩ := MW.spooks hw
  obtain ⟨f4, m4, hf4⟩ := MW.people hw
  obtain ⟨f5, m5, hf5⟩ := MW.numbers hw
  refine lv_aload_n hx hb dX5_bid_0 rfl (lv_at hl 0 rfl) ?_
  refine lv_aload_n hx hb dX5_bid_1 rfl (lv_at hl 0 rfl) ?_
  refine lv_iload_n hx hb dX5_bid_2 rfl (lv_at hl 1 rfl) ?_
  refine m_cV 1 [.int (nI u)] [.ref (g 0)] hx hb hml hown hts hK (c_misGuestY l E A g M σ th hv hw u (by omega)) gX5_bid_X5_isGuest rfl rfl rfl (by decide +kernel) rfl ⟨Nat.le_of_ble_eq_true rfl, Nat.le_of_ble_eq_true rfl⟩ hM (MW.x hw) rfl rfl hM hl.1 (Nat.le_of_ble_eq_true rfl) ⟨Nat.le_of_ble_eq_true rfl, Nat.le_of_ble_eq_true rfl⟩ rfl dX5_bid_3 ?_
  refine lv_if_eq (tgt := 17) hx hb dX5_bid_6 (by decide) (fun c9 => absurd c9 (by decide)) (fun c9 => ?_)
  refine lv_aload_n hx hb dX5_bid_9 rfl (lv_at hl 0 rfl) ?_
  refine lv_iload_n hx hb dX5_bid_10 rfl (lv_at hl 2 rfl) ?_
  refine m_cV 1 [.int (nI k)] [.ref (g 0)] hx hb hml hown hts hK (c_misRoomY l E A g M σ th hv hw k (by omega)) gX5_bid_X5_isRoom rfl rfl rfl (by decide +kernel) rfl ⟨Nat.le_of_ble_eq_true rfl, Nat.le_of_ble_eq_true rfl⟩ hM (MW.x hw) rfl rfl hM hl.1 (Nat.le_of_ble_eq_true rfl) ⟨Nat.le_of_ble_eq_true rfl, Nat.le_of_ble_eq_true rfl⟩ rfl dX5_bid_11 ?_
  refine lv_if_ne (tgt := 21) hx hb dX5_bid_14 (by decide) (fun c9 => ?_) (fun c9 => absurd c9 (by decide))
  refine lv_iload_n hx hb dX5_bid_21 rfl (lv_at hl 3 rfl) ?_
  refine lv_iconst (v := 1) hx hb dX5_bid_22 (by decide) ?_
  refine lv_sipush (v := 200) hx hb dX5_bid_23 (by decide) ?_
  refine m_cS 3 [.int z, .int 1, .int 200] [.ref (g 0)] hx hb hml hown hts hK (c_isIn l E A g M z 1 200) gX5_bid_X5_isIn rfl rfl rfl (by decide +kernel) rfl ⟨Nat.le_of_ble_eq_true rfl, Nat.le_of_ble_eq_true rfl⟩ trivial hl.1 (Nat.le_of_ble_eq_true rfl) ⟨Nat.le_of_ble_eq_true rfl, Nat.le_of_ble_eq_true rfl⟩ rfl dX5_bid_26 ?_
  refine lv_if_ne (tgt := 36) hx hb dX5_bid_29 (by decide) (fun c9 => absurd (of_decide_eq_true (bI_t c9)) hbad) (fun c29 => ?_)
  have c29 := of_decide_eq_false (bI_f c29)
  refine lv_iconst (v := 2) hx hb dX5_bid_32 (by decide) ?_
  refine lv_goto (tgt := 37) hx hb dX5_bid_33 (by decide) ?_
  refine m_put hx hb hts in_X5_bid_X5 tyX5 tyX5_ok nmX5 hown hK hM hS (MW.x hw) rfl 0 (by decide) (by decide +kernel) rfl (tyX5_ok 0 (by decide)) rfl rfl (Nat.le_of_ble_eq_true rfl) dX5_bid_37 (fun H locs hM hz hS => ?_)
  obtain ⟨M, hM, hw⟩ : ∃ M', mP E A g M' H ∧ MW E g M' σ 2 := ⟨_, hM, MW.setTh hw _⟩
  obtain ⟨f1, m1, hf1⟩ := MW.house hw
  obtain ⟨f2, m2, hf2⟩ := MW.joined hw
  obtain ⟨f3, m3, hf3⟩ := MW.spooks hw
  obtain ⟨f4, m4, hf4⟩ := MW.people hw
  obtain ⟨f5, m5, hf5⟩ := MW.numbers hw
  refine lv_aload_n hx hb dX5_bid_40 rfl (lv_at hl 0 rfl) ?_
  refine m_get hx hb hts in_X5_bid_X5 hown hK hM (MW.x hw) rfl 0 (by decide) (by decide +kernel) rfl dX5_bid_41 ?_
  refine lv_if_eq (tgt := 49) hx hb dX5_bid_44 (by decide) (fun c9 => absurd c9 (by decide)) (fun c9 => ?_)
  refine lv_iconst (v := 0) hx hb dX5_bid_47 (by decide) ?_
  exact w_z hx hb hr hlocks dX5_bid_48 hS (Nat.le_of_ble_eq_true rfl) (Nat.le_of_ble_eq_true rfl) (rfl) (⟨_, hM, hw⟩)
def biS (σ : Sg) (u k : Nat) (z : Int32) : Sg := uU (uU σ u 3 (nI k)) u 4 z
set_option maxHeartbeats 4000000 in
set_option maxRecDepth 100000 in
theorem m_bidOk (l : Launch) (E : gE) (A : Nat → Prop) (g : Nat → Nat) (M : gM) (σ : Sg) (th : Int32) (hv : VS σ) (hw : MW E g M σ th) (u k : Nat) (hu : u < kU σ) (hk : k < kR σ) (z : Int32) (hz9 : 1 ≤ z ∧ z ≤ 200) (hv2 : VS (biS σ u k z)) : Met l yX5_bid wsX5_bid ({ frames := 2, cells := 0, slots := 0, locals := 44 } : Room) (Pm E [.ref (g 0), .int (nI u), .int (nI k), .int z] (mP E A g M)) (QW (some (.int (bI (sui (biS σ u k z) u k)))) (fun H => ∃ M', mP E A g M' H ∧ MW E g M' (biS σ u k z) 0) A) 0 0 A := by
  refine m_entry (by decide) rfl (Nat.le_of_ble_eq_true rfl) ?_
  intro p e s m args below meth c hx hb hr hml hts hown hlocks hin hM hK ls hl
  have hl : lv_has ls 4 [(0, .ref (g 0)), (1, .int (nI u)), (2, .int (nI k)), (3, .int z)] := hl
  have hown : s.vm.findClass RX5 = some m.cls := hown
  have hS : va_S A s.heap s.heap [] := va_S.rf
  skip
  obtain ⟨⟨hR9, hG9, hU9, hD9⟩, -⟩ := id hv
  obtain ⟨f1, m1, hf1⟩ := MW.house hw
  obtain ⟨f2, m2, hf2⟩ := MW.joined hw
  obtain ⟨f3, m3, hf3⟩ := MW.spooks hw
  obtain ⟨f4, m4, hf4⟩ := MW.people hw
  obtain ⟨f5, m5, hf5⟩ := MW.numbers hw
  refine lv_aload_n hx hb dX5_bid_0 rfl (lv_at hl 0 rfl) ?_
  refine lv_aload_n hx hb dX5_bid_1 rfl (lv_at hl 0 rfl) ?_
  refine lv_iload_n hx hb dX5_bid_2 rfl (lv_at hl 1 rfl) ?_
  refine m_cV 1 [.int (nI u)] [.ref (g 0)] hx hb hml hown hts hK (c_misGuestY l E A g M σ th hv hw u (by omega)) gX5_bid_X5_isGuest rfl rfl rfl (by decide +kernel) rfl ⟨Nat.le_of_ble_eq_true rfl, Nat.le_of_ble_eq_true rfl⟩ hM (MW.x hw) rfl rfl hM hl.1 (Nat.le_of_ble_eq_true rfl) ⟨Nat.le_of_ble_eq_true rfl, Nat.le_of_ble_eq_true rfl⟩ rfl dX5_bid_3 ?_
  refine lv_if_eq (tgt := 17) hx hb dX5_bid_6 (by decide) (fun c9 => absurd c9 (by decide)) (fun c9 => ?_)
  refine lv_aload_n hx hb dX5_bid_9 rfl (lv_at hl 0 rfl) ?_
  refine lv_iload_n hx hb dX5_bid_10 rfl (lv_at hl 2 rfl) ?_
  refine m_cV 1 [.int (nI k)] [.ref (g 0)] hx hb hml hown hts hK (c_misRoomY l E A g M σ th hv hw k (by omega)) gX5_bid_X5_isRoom rfl rfl rfl (by decide +kernel) rfl ⟨Nat.le_of_ble_eq_true rfl, Nat.le_of_ble_eq_true rfl⟩ hM (MW.x hw) rfl rfl hM hl.1 (Nat.le_of_ble_eq_true rfl) ⟨Nat.le_of_ble_eq_true rfl, Nat.le_of_ble_eq_true rfl⟩ rfl dX5_bid_11 ?_
  refine lv_if_ne (tgt := 21) hx hb dX5_bid_14 (by decide) (fun c9 => ?_) (fun c9 => absurd c9 (by decide))
  refine lv_iload_n hx hb dX5_bid_21 rfl (lv_at hl 3 rfl) ?_
  refine lv_iconst (v := 1) hx hb dX5_bid_22 (by decide) ?_
  refine lv_sipush (v := 200) hx hb dX5_bid_23 (by decide) ?_
  refine m_cS 3 [.int z, .int 1, .int 200] [.ref (g 0)] hx hb hml hown hts hK (c_isInY l E A g M z 1 200 (hz9)) gX5_bid_X5_isIn rfl rfl rfl (by decide +kernel) rfl ⟨Nat.le_of_ble_eq_true rfl, Nat.le_of_ble_eq_true rfl⟩ trivial hl.1 (Nat.le_of_ble_eq_true rfl) ⟨Nat.le_of_ble_eq_true rfl, Nat.le_of_ble_eq_true rfl⟩ rfl dX5_bid_26 ?_
  refine lv_if_ne (tgt := 36) hx hb dX5_bid_29 (by decide) (fun c9 => ?_) (fun c9 => absurd c9 (by decide))
  refine lv_iconst (v := 0) hx hb dX5_bid_36 (by decide) ?_
  refine m_put hx hb hts in_X5_bid_X5 tyX5 tyX5_ok nmX5 hown hK hM hS (MW.x hw) rfl 0 (by decide) (by decide +kernel) rfl (tyX5_ok 0 (by decide)) rfl rfl (Nat.le_of_ble_eq_true rfl) dX5_bid_37 (fun H locs hM hz hS => ?_)
  obtain ⟨M, hM, hw⟩ : ∃ M', mP E A g M' H ∧ MW E g M' σ 0 := ⟨_, hM, MW.setTh hw _⟩
  obtain ⟨f1, m1, hf1⟩ := MW.house hw
  obtain ⟨f2, m2, hf2⟩ := MW.joined hw
  obtain ⟨f3, m3, hf3⟩ := MW.spooks hw
  obtain ⟨f4, m4, hf4⟩ := MW.people hw
  obtain ⟨f5, m5, hf5⟩ := MW.numbers hw
  refine lv_aload_n hx hb dX5_bid_40 rfl (lv_at hl 0 rfl) ?_
  refine m_get hx hb hts in_X5_bid_X5 hown hK hM (MW.x hw) rfl 0 (by decide) (by decide +kernel) rfl dX5_bid_41 ?_
  refine lv_if_eq (tgt := 49) hx hb dX5_bid_44 (by decide) (fun c9 => ?_) (fun c9 => absurd c9 (by decide))
  refine lv_aload_n hx hb dX5_bid_49 rfl (lv_at hl 0 rfl) ?_
  refine lv_iload_n hx hb dX5_bid_50 rfl (lv_at hl 1 rfl) ?_
  refine lv_iconst (v := 3) hx hb dX5_bid_51 (by decide) ?_
  refine lv_iload_n hx hb dX5_bid_52 rfl (lv_at hl 2 rfl) ?_
  refine m_wV 3 [.int (nI u), .int 3, .int (nI k)] [] hx hb hml hown hts hK (c_set l E A g M σ 0 hw u 3 (by omega) (by omega) (nI k)) gX5_bid_X5_set rfl rfl rfl (by decide +kernel) rfl ⟨Nat.le_of_ble_eq_true rfl, Nat.le_of_ble_eq_true rfl⟩ hM (MW.x hw) rfl rfl hM hl.1 (Nat.le_of_ble_eq_true rfl) ⟨Nat.le_of_ble_eq_true rfl, Nat.le_of_ble_eq_true rfl⟩ rfl dX5_bid_53 hS (fun _ _ h => h) (fun _ h => h) (fun H locs hQ hz hk hS => ?_)
  refine W.eq (g2 := F0 m 56 ls []) rfl ?_
  obtain ⟨M, hM, hw⟩ := hQ
  obtain ⟨f1, m1, hf1⟩ := MW.house hw
  obtain ⟨f2, m2, hf2⟩ := MW.joined hw
  obtain ⟨f3, m3, hf3⟩ := MW.spooks hw
  obtain ⟨f4, m4, hf4⟩ := MW.people hw
  obtain ⟨f5, m5, hf5⟩ := MW.numbers hw
  refine lv_aload_n hx hb dX5_bid_56 rfl (lv_at hl 0 rfl) ?_
  refine lv_iload_n hx hb dX5_bid_57 rfl (lv_at hl 1 rfl) ?_
  refine lv_iconst (v := 4) hx hb dX5_bid_58 (by decide) ?_
  refine lv_iload_n hx hb dX5_bid_59 rfl (lv_at hl 3 rfl) ?_
  refine m_wV 3 [.int (nI u), .int 4, .int z] [] hx hb hml hown hts hK (c_set l E A g M (uU σ u 3 (nI k)) 0 hw u 4 (by omega) (by omega) z) gX5_bid_X5_set rfl rfl rfl (by decide +kernel) rfl ⟨Nat.le_of_ble_eq_true rfl, Nat.le_of_ble_eq_true rfl⟩ hM (MW.x hw) rfl rfl hM hl.1 (Nat.le_of_ble_eq_true rfl) ⟨Nat.le_of_ble_eq_true rfl, Nat.le_of_ble_eq_true rfl⟩ rfl dX5_bid_60 hS (fun _ _ h => h) (fun _ h => h) (fun H locs hQ hz hk hS => ?_)
  refine W.eq (g2 := F0 m 63 ls []) rfl ?_
  obtain ⟨M, hM, hw⟩ := hQ
  obtain ⟨f1, m1, hf1⟩ := MW.house hw
  obtain ⟨f2, m2, hf2⟩ := MW.joined hw
  obtain ⟨f3, m3, hf3⟩ := MW.spooks hw
  obtain ⟨f4, m4, hf4⟩ := MW.people hw
  obtain ⟨f5, m5, hf5⟩ := MW.numbers hw
  refine lv_aload_n hx hb dX5_bid_63 rfl (lv_at hl 0 rfl) ?_
  refine lv_iload_n hx hb dX5_bid_64 rfl (lv_at hl 1 rfl) ?_
  refine lv_iload_n hx hb dX5_bid_65 rfl (lv_at hl 2 rfl) ?_
  refine m_cV 2 [.int (nI u), .int (nI k)] [] hx hb hml hown hts hK (c_suits l E A g M (biS σ u k z) 0 hv2 hw u k (by omega) (by omega)) gX5_bid_X5_suits rfl rfl rfl (by decide +kernel) rfl ⟨Nat.le_of_ble_eq_true rfl, Nat.le_of_ble_eq_true rfl⟩ hM (MW.x hw) rfl rfl hM hl.1 (Nat.le_of_ble_eq_true rfl) ⟨Nat.le_of_ble_eq_true rfl, Nat.le_of_ble_eq_true rfl⟩ rfl dX5_bid_66 ?_
  exact w_z hx hb hr hlocks dX5_bid_69 hS (Nat.le_of_ble_eq_true rfl) (Nat.le_of_ble_eq_true rfl) (by first | rfl | assumption) (⟨_, hM, hw⟩)
theorem in_X5_digest_X5 : ∀ w ∈ u_ws RX5 TX5 11, w ∈ wsX5_digest := by decide +kernel
set_option maxHeartbeats 4000000 in
set_option maxRecDepth 100000 in
theorem m_digest (l : Launch) (E : gE) (A : Nat → Prop) (g : Nat → Nat) (M : gM) (σ : Sg) (th : Int32) (hv : VS σ) (hw : MW E g M σ th)  : Met l yX5_digest wsX5_digest ({ frames := 6, cells := 0, slots := 0, locals := 137 } : Room) (Pm E [.ref (g 0)] (mP E A g M)) (QW (some (.long (dGu σ (kU σ)))) (fun H => ∃ M', mP E A g M' H ∧ MW E g M' σ 0) A) 0 0 A := by
  refine m_entry (by decide) rfl (Nat.le_of_ble_eq_true rfl) ?_
  intro p e s m args below meth c hx hb hr hml hts hown hlocks hin hM hK ls hl
  have hl : lv_has ls 5 [(0, .ref (g 0))] := hl
  have hown : s.vm.findClass RX5 = some m.cls := hown
  have hS : va_S A s.heap s.heap [] := va_S.rf
  skip
  obtain ⟨⟨hR9, hG9, hU9, hD9⟩, -⟩ := id hv
  obtain ⟨f1, m1, hf1⟩ := MW.house hw
  obtain ⟨f2, m2, hf2⟩ := MW.joined hw
  obtain ⟨f3, m3, hf3⟩ := MW.spooks hw
  obtain ⟨f4, m4, hf4⟩ := MW.people hw
  obtain ⟨f5, m5, hf5⟩ := MW.numbers hw
  refine lv_aload_n hx hb dX5_digest_0 rfl (lv_at hl 0 rfl) ?_
  refine lv_iconst (v := 0) hx hb dX5_digest_1 (by decide) ?_
  refine m_put hx hb hts in_X5_digest_X5 tyX5 tyX5_ok nmX5 hown hK hM hS (MW.x hw) rfl 0 (by decide) (by decide +kernel) rfl (tyX5_ok 0 (by decide)) rfl rfl (Nat.le_of_ble_eq_true rfl) dX5_digest_2 (fun H locs hM hz hS => ?_)
  obtain ⟨M, hM, hw⟩ : ∃ M', mP E A g M' H ∧ MW E g M' σ 0 := ⟨_, hM, MW.setTh hw _⟩
  obtain ⟨f1, m1, hf1⟩ := MW.house hw
  obtain ⟨f2, m2, hf2⟩ := MW.joined hw
  obtain ⟨f3, m3, hf3⟩ := MW.spooks hw
  obtain ⟨f4, m4, hf4⟩ := MW.people hw
  obtain ⟨f5, m5, hf5⟩ := MW.numbers hw
  refine lv_ldc2 (v := 773) hx hb hown (hts _ (by decide +kernel)) dX5_digest_5 ?_
  refine lv_lstore_n (lv' := [(1, .long 773), (0, .ref (g 0))]) hx hb dX5_digest_8 rfl hl (by decide) rfl (fun ls hl => ?_)
  refine lv_iconst (v := 0) hx hb dX5_digest_9 (by decide) ?_
  refine lv_istore_n (lv' := [(3, .int 0), (1, .long 773), (0, .ref (g 0))]) hx hb dX5_digest_10 rfl hl (by decide) rfl (fun ls hl => ?_)
  have lp11 : ∀ (n11 i : Nat), n11 + i = 9 → ∀ (H : Heap) (locs : List Loc) (M : gM), (mP E A g M H ∧ MW E g M σ 0) → va_S A s.heap H locs → ∀ x1 : Int64, x1 = dF (ctT σ) 773 i → ∀ ls : Array Slot, lv_has ls 5 [(3, .int (nI i)), (1, .long x1), (0, .ref (g 0))] → W p l e ({ frames := 6, cells := 0, slots := 0, locals := 137 } : Room) s m args below meth c H locs 0 0 (MQ below (QW (some (.long (dGu σ (kU σ)))) (fun H => ∃ M', mP E A g M' H ∧ MW E g M' σ 0) A) args s 0 0 A) (F0 m 11 ls []) := by
    intro n11
    induction n11 with
    | zero =>
      intro i hi11 H locs M hI hS x1 ex1 ls hl
      obtain ⟨hM, hw⟩ := hI
      obtain ⟨f1, m1, hf1⟩ := MW.house hw
      obtain ⟨f2, m2, hf2⟩ := MW.joined hw
      obtain ⟨f3, m3, hf3⟩ := MW.spooks hw
      obtain ⟨f4, m4, hf4⟩ := MW.people hw
      obtain ⟨f5, m5, hf5⟩ := MW.numbers hw
      obtain rfl : 9 = i := by omega
      refine lv_iload_n hx hb dX5_digest_11 rfl (lv_at hl 0 rfl) ?_
      refine lv_bipush (v := 9) hx hb dX5_digest_12 (by decide) ?_
      refine lv_icmp_ge (tgt := 36) hx hb dX5_digest_14 (by decide) (fun c14 => ?_) (fun c9 => absurd (Int32.le_refl _) c9)
      refine lv_iconst (v := 0) hx hb dX5_digest_36 (by decide) ?_
      refine lv_istore_n (lv' := [(3, .int 0), (1, .long x1), (0, .ref (g 0))]) hx hb dX5_digest_37 rfl hl (by decide) rfl (fun ls hl => ?_)
      have lp38 : ∀ (n38 i : Nat), n38 + i = kR σ → ∀ (H : Heap) (locs : List Loc) (M : gM), (mP E A g M H ∧ MW E g M σ 0) → va_S A s.heap H locs → ∀ y1 : Int64, y1 = dRm σ i → ∀ ls : Array Slot, lv_has ls 5 [(3, .int (nI i)), (1, .long y1), (0, .ref (g 0))] → W p l e ({ frames := 6, cells := 0, slots := 0, locals := 137 } : Room) s m args below meth c H locs 0 0 (MQ below (QW (some (.long (dGu σ (kU σ)))) (fun H => ∃ M', mP E A g M' H ∧ MW E g M' σ 0) A) args s 0 0 A) (F0 m 38 ls []) := by
        intro n38
        induction n38 with
        | zero =>
          intro i hi38 H locs M hI hS y1 ey1 ls hl
          obtain ⟨hM, hw⟩ := hI
          obtain ⟨f1, m1, hf1⟩ := MW.house hw
          obtain ⟨f2, m2, hf2⟩ := MW.joined hw
          obtain ⟨f3, m3, hf3⟩ := MW.spooks hw
          obtain ⟨f4, m4, hf4⟩ := MW.people hw
          obtain ⟨f5, m5, hf5⟩ := MW.numbers hw
          obtain rfl : kR σ = i := by omega
          refine lv_iload_n hx hb dX5_digest_38 rfl (lv_at hl 0 rfl) ?_
          refine lv_aload_n hx hb dX5_digest_39 rfl (lv_at hl 2 rfl) ?_
          refine m_get hx hb hts in_X5_digest_X5 hown hK hM (MW.x hw) rfl 1 (by decide) (by decide +kernel) rfl dX5_digest_40 ?_
          refine lv_icmp_ge (tgt := 127) hx hb dX5_digest_43 (by decide) (fun c43 => ?_) (fun c9 => absurd (Int32.le_refl _) c9)
          refine lv_iconst (v := 0) hx hb dX5_digest_127 (by decide) ?_
          refine lv_istore_n (lv' := [(3, .int 0), (1, .long y1), (0, .ref (g 0))]) hx hb dX5_digest_128 rfl hl (by decide) rfl (fun ls hl => ?_)
          have lp129 : ∀ (n129 i : Nat), n129 + i = kG σ → ∀ (H : Heap) (locs : List Loc) (M : gM), (mP E A g M H ∧ MW E g M σ 0) → va_S A s.heap H locs → ∀ z1 : Int64, z1 = dGh σ i → ∀ ls : Array Slot, lv_has ls 5 [(3, .int (nI i)), (1, .long z1), (0, .ref (g 0))] → W p l e ({ frames := 6, cells := 0, slots := 0, locals := 137 } : Room) s m args below meth c H locs 0 0 (MQ below (QW (some (.long (dGu σ (kU σ)))) (fun H => ∃ M', mP E A g M' H ∧ MW E g M' σ 0) A) args s 0 0 A) (F0 m 129 ls []) := by
            intro n129
            induction n129 with
            | zero =>
              intro i hi129 H locs M hI hS z1 ez1 ls hl
              obtain ⟨hM, hw⟩ := hI
              obtain ⟨f1, m1, hf1⟩ := MW.house hw
              obtain ⟨f2, m2, hf2⟩ := MW.joined hw
              obtain ⟨f3, m3, hf3⟩ := MW.spooks hw
              obtain ⟨f4, m4, hf4⟩ := MW.people hw
              obtain ⟨f5, m5, hf5⟩ := MW.numbers hw
              obtain rfl : kG σ = i := by omega
              refine lv_iload_n hx hb dX5_digest_129 rfl (lv_at hl 0 rfl) ?_
              refine lv_aload_n hx hb dX5_digest_130 rfl (lv_at hl 2 rfl) ?_
              refine m_get hx hb hts in_X5_digest_X5 hown hK hM (MW.x hw) rfl 3 (by decide) (by decide +kernel) rfl dX5_digest_131 ?_
              refine lv_icmp_ge (tgt := 174) hx hb dX5_digest_134 (by decide) (fun c134 => ?_) (fun c9 => absurd (Int32.le_refl _) c9)
              refine lv_iconst (v := 0) hx hb dX5_digest_174 (by decide) ?_
              refine lv_istore_n (lv' := [(3, .int 0), (1, .long z1), (0, .ref (g 0))]) hx hb dX5_digest_175 rfl hl (by decide) rfl (fun ls hl => ?_)
              have lp176 : ∀ (n176 i : Nat), n176 + i = kU σ → ∀ (H : Heap) (locs : List Loc) (M : gM), (mP E A g M H ∧ MW E g M σ 0) → va_S A s.heap H locs → ∀ u1 : Int64, u1 = dGu σ i → ∀ ls : Array Slot, lv_has ls 5 [(3, .int (nI i)), (1, .long u1), (0, .ref (g 0))] → W p l e ({ frames := 6, cells := 0, slots := 0, locals := 137 } : Room) s m args below meth c H locs 0 0 (MQ below (QW (some (.long (dGu σ (kU σ)))) (fun H => ∃ M', mP E A g M' H ∧ MW E g M' σ 0) A) args s 0 0 A) (F0 m 176 ls []) := by
                intro n176
                induction n176 with
                | zero =>
                  intro i hi176 H locs M hI hS u1 eu1 ls hl
                  obtain ⟨hM, hw⟩ := hI
                  obtain ⟨f1, m1, hf1⟩ := MW.house hw
                  obtain ⟨f2, m2, hf2⟩ := MW.joined hw
                  obtain ⟨f3, m3, hf3⟩ := MW.spooks hw
                  obtain ⟨f4, m4, hf4⟩ := MW.people hw
                  obtain ⟨f5, m5, hf5⟩ := MW.numbers hw
                  obtain rfl : kU σ = i := by omega
                  refine lv_iload_n hx hb dX5_digest_176 rfl (lv_at hl 0 rfl) ?_
                  refine lv_aload_n hx hb dX5_digest_177 rfl (lv_at hl 2 rfl) ?_
                  refine m_get hx hb hts in_X5_digest_X5 hown hK hM (MW.x hw) rfl 4 (by decide) (by decide +kernel) rfl dX5_digest_178 ?_
                  refine lv_icmp_ge (tgt := 221) hx hb dX5_digest_181 (by decide) (fun c181 => ?_) (fun c9 => absurd (Int32.le_refl _) c9)
                  refine lv_lload_n hx hb dX5_digest_221 rfl (lv_at hl 1 rfl) ?_
                  exact w_l hx hb hr hlocks dX5_digest_222 hS (Nat.le_of_ble_eq_true rfl) (Nat.le_of_ble_eq_true rfl) (by first | rfl | assumption) (⟨_, hM, hw⟩)
                | succ n176 ih176 =>
                  intro i hi176 H locs M hI hS u1 eu1 ls hl
                  obtain ⟨hM, hw⟩ := hI
                  obtain ⟨f1, m1, hf1⟩ := MW.house hw
                  obtain ⟨f2, m2, hf2⟩ := MW.joined hw
                  obtain ⟨f3, m3, hf3⟩ := MW.spooks hw
                  obtain ⟨f4, m4, hf4⟩ := MW.people hw
                  obtain ⟨f5, m5, hf5⟩ := MW.numbers hw
                  have hlt176 : i < kU σ := by omega
                  refine lv_iload_n hx hb dX5_digest_176 rfl (lv_at hl 0 rfl) ?_
                  refine lv_aload_n hx hb dX5_digest_177 rfl (lv_at hl 2 rfl) ?_
                  refine m_get hx hb hts in_X5_digest_X5 hown hK hM (MW.x hw) rfl 4 (by decide) (by decide +kernel) rfl dX5_digest_178 ?_
                  refine lv_icmp_ge (tgt := 221) hx hb dX5_digest_181 (by decide) (fun c9 => absurd c9 (nI_ge hlt176 (by omega))) (fun c181 => ?_)
                  refine lv_iconst (v := 0) hx hb dX5_digest_184 (by decide) ?_
                  refine lv_istore (lv' := [(4, .int 0), (3, .int (nI i)), (1, .long u1), (0, .ref (g 0))]) hx hb dX5_digest_185 hl (by decide) rfl (fun ls hl => ?_)
                  have lp187 : ∀ (n187 j : Nat), n187 + j = 7 → ∀ (H : Heap) (locs : List Loc) (M : gM), (mP E A g M H ∧ MW E g M σ 0) → va_S A s.heap H locs → ∀ v1 : Int64, v1 = dF (sGu σ i) u1 j → ∀ ls : Array Slot, lv_has ls 5 [(4, .int (nI j)), (1, .long v1), (3, .int (nI i)), (0, .ref (g 0))] → W p l e ({ frames := 6, cells := 0, slots := 0, locals := 137 } : Room) s m args below meth c H locs 0 0 (MQ below (QW (some (.long (dGu σ (kU σ)))) (fun H => ∃ M', mP E A g M' H ∧ MW E g M' σ 0) A) args s 0 0 A) (F0 m 187 ls []) := by
                    intro n187
                    induction n187 with
                    | zero =>
                      intro j hi187 H locs M hI hS v1 ev1 ls hl
                      obtain ⟨hM, hw⟩ := hI
                      obtain ⟨f1, m1, hf1⟩ := MW.house hw
                      obtain ⟨f2, m2, hf2⟩ := MW.joined hw
                      obtain ⟨f3, m3, hf3⟩ := MW.spooks hw
                      obtain ⟨f4, m4, hf4⟩ := MW.people hw
                      obtain ⟨f5, m5, hf5⟩ := MW.numbers hw
                      obtain rfl : 7 = j := by omega
                      refine lv_iload hx hb dX5_digest_187 (lv_at hl 0 rfl) ?_
                      refine lv_bipush (v := 7) hx hb dX5_digest_189 (by decide) ?_
                      refine lv_icmp_ge (tgt := 215) hx hb dX5_digest_191 (by decide) (fun c191 => ?_) (fun c9 => absurd (Int32.le_refl _) c9)
                      refine lv_iinc (v := nI (i + 1)) (lv' := [(3, .int (nI (i + 1))), (4, .int (nI 7)), (1, .long v1), (0, .ref (g 0))]) hx hb dX5_digest_215 hl (k := 2) rfl (m_inc _) (by decide) rfl (fun ls hl => ?_)
                      refine lv_goto (tgt := 176) hx hb dX5_digest_218 (by decide) ?_
                      exact ih176 (i + 1) (by omega) _ _ _ ⟨hM, hw⟩ hS _ (by rw [ev1, eu1]; rfl) ls (lv_sub hl [0, 2, 3] rfl)
                    | succ n187 ih187 =>
                      intro j hi187 H locs M hI hS v1 ev1 ls hl
                      obtain ⟨hM, hw⟩ := hI
                      obtain ⟨f1, m1, hf1⟩ := MW.house hw
                      obtain ⟨f2, m2, hf2⟩ := MW.joined hw
                      obtain ⟨f3, m3, hf3⟩ := MW.spooks hw
                      obtain ⟨f4, m4, hf4⟩ := MW.people hw
                      obtain ⟨f5, m5, hf5⟩ := MW.numbers hw
                      have hlt187 : j < 7 := by omega
                      refine lv_iload hx hb dX5_digest_187 (lv_at hl 0 rfl) ?_
                      refine lv_bipush (v := 7) hx hb dX5_digest_189 (by decide) ?_
                      refine lv_icmp_ge (tgt := 215) hx hb dX5_digest_191 (by decide) (fun c9 => absurd c9 (nI_ge (b := 7) hlt187 (by omega))) (fun c191 => ?_)
                      refine lv_lload_n hx hb dX5_digest_194 rfl (lv_at hl 1 rfl) ?_
                      refine lv_ldc2 (v := 31) hx hb hown (hts _ (by decide +kernel)) dX5_digest_195 ?_
                      refine lv_lmul hx hb dX5_digest_198 ?_
                      refine lv_aload_n hx hb dX5_digest_199 rfl (lv_at hl 3 rfl) ?_
                      refine lv_iload_n hx hb dX5_digest_200 rfl (lv_at hl 2 rfl) ?_
                      refine lv_iload hx hb dX5_digest_201 (lv_at hl 0 rfl) ?_
                      refine m_cV 2 [.int (nI i), .int (nI j)] [.long (v1 * 31)] hx hb hml hown hts hK (c_pe l E A g M σ 0 hw i j (by omega) (by omega)) gX5_digest_X5_pe rfl rfl rfl (by decide +kernel) rfl ⟨Nat.le_of_ble_eq_true rfl, Nat.le_of_ble_eq_true rfl⟩ hM (MW.x hw) rfl rfl hM hl.1 (Nat.le_of_ble_eq_true rfl) ⟨Nat.le_of_ble_eq_true rfl, Nat.le_of_ble_eq_true rfl⟩ rfl dX5_digest_203 ?_
                      refine lv_i2l hx hb dX5_digest_206 rfl ?_
                      refine lv_ladd hx hb dX5_digest_207 ?_
                      refine lv_lstore_n (lv' := [(1, .long ((v1 * 31) + ((sGu σ i j).toInt64))), (4, .int (nI j)), (3, .int (nI i)), (0, .ref (g 0))]) hx hb dX5_digest_208 rfl hl (by decide) rfl (fun ls hl => ?_)
                      refine lv_iinc (v := nI (j + 1)) (lv' := [(4, .int (nI (j + 1))), (1, .long ((v1 * 31) + ((sGu σ i j).toInt64))), (3, .int (nI i)), (0, .ref (g 0))]) hx hb dX5_digest_209 hl (k := 1) rfl (m_inc _) (by decide) rfl (fun ls hl => ?_)
                      refine lv_goto (tgt := 187) hx hb dX5_digest_212 (by decide) ?_
                      exact ih187 (j + 1) (by omega) _ _ _ ⟨hM, hw⟩ hS _ (by rw [ev1]; rfl) ls (lv_sub hl [0, 1, 2, 3] rfl)
                  exact lp187 (7) 0 (by omega) _ _ _ ⟨hM, hw⟩ hS _ (rfl) ls (lv_sub hl [0, 2, 1, 3] rfl)
              exact lp176 (kU σ) 0 (by omega) _ _ _ ⟨hM, hw⟩ hS _ (ez1) ls (lv_sub hl [0, 1, 2] rfl)
            | succ n129 ih129 =>
              intro i hi129 H locs M hI hS z1 ez1 ls hl
              obtain ⟨hM, hw⟩ := hI
              obtain ⟨f1, m1, hf1⟩ := MW.house hw
              obtain ⟨f2, m2, hf2⟩ := MW.joined hw
              obtain ⟨f3, m3, hf3⟩ := MW.spooks hw
              obtain ⟨f4, m4, hf4⟩ := MW.people hw
              obtain ⟨f5, m5, hf5⟩ := MW.numbers hw
              have hlt129 : i < kG σ := by omega
              refine lv_iload_n hx hb dX5_digest_129 rfl (lv_at hl 0 rfl) ?_
              refine lv_aload_n hx hb dX5_digest_130 rfl (lv_at hl 2 rfl) ?_
              refine m_get hx hb hts in_X5_digest_X5 hown hK hM (MW.x hw) rfl 3 (by decide) (by decide +kernel) rfl dX5_digest_131 ?_
              refine lv_icmp_ge (tgt := 174) hx hb dX5_digest_134 (by decide) (fun c9 => absurd c9 (nI_ge hlt129 (by omega))) (fun c134 => ?_)
              refine lv_iconst (v := 0) hx hb dX5_digest_137 (by decide) ?_
              refine lv_istore (lv' := [(4, .int 0), (3, .int (nI i)), (1, .long z1), (0, .ref (g 0))]) hx hb dX5_digest_138 hl (by decide) rfl (fun ls hl => ?_)
              have lp140 : ∀ (n140 j : Nat), n140 + j = 12 → ∀ (H : Heap) (locs : List Loc) (M : gM), (mP E A g M H ∧ MW E g M σ 0) → va_S A s.heap H locs → ∀ w1 : Int64, w1 = dF (plc σ i) z1 j → ∀ ls : Array Slot, lv_has ls 5 [(4, .int (nI j)), (1, .long w1), (3, .int (nI i)), (0, .ref (g 0))] → W p l e ({ frames := 6, cells := 0, slots := 0, locals := 137 } : Room) s m args below meth c H locs 0 0 (MQ below (QW (some (.long (dGu σ (kU σ)))) (fun H => ∃ M', mP E A g M' H ∧ MW E g M' σ 0) A) args s 0 0 A) (F0 m 140 ls []) := by
                intro n140
                induction n140 with
                | zero =>
                  intro j hi140 H locs M hI hS w1 ew1 ls hl
                  obtain ⟨hM, hw⟩ := hI
                  obtain ⟨f1, m1, hf1⟩ := MW.house hw
                  obtain ⟨f2, m2, hf2⟩ := MW.joined hw
                  obtain ⟨f3, m3, hf3⟩ := MW.spooks hw
                  obtain ⟨f4, m4, hf4⟩ := MW.people hw
                  obtain ⟨f5, m5, hf5⟩ := MW.numbers hw
                  obtain rfl : 12 = j := by omega
                  refine lv_iload hx hb dX5_digest_140 (lv_at hl 0 rfl) ?_
                  refine lv_bipush (v := 12) hx hb dX5_digest_142 (by decide) ?_
                  refine lv_icmp_ge (tgt := 168) hx hb dX5_digest_144 (by decide) (fun c144 => ?_) (fun c9 => absurd (Int32.le_refl _) c9)
                  refine lv_iinc (v := nI (i + 1)) (lv' := [(3, .int (nI (i + 1))), (4, .int (nI 12)), (1, .long w1), (0, .ref (g 0))]) hx hb dX5_digest_168 hl (k := 2) rfl (m_inc _) (by decide) rfl (fun ls hl => ?_)
                  refine lv_goto (tgt := 129) hx hb dX5_digest_171 (by decide) ?_
                  exact ih129 (i + 1) (by omega) _ _ _ ⟨hM, hw⟩ hS _ (by rw [ew1, ez1]; rfl) ls (lv_sub hl [0, 2, 3] rfl)
                | succ n140 ih140 =>
                  intro j hi140 H locs M hI hS w1 ew1 ls hl
                  obtain ⟨hM, hw⟩ := hI
                  obtain ⟨f1, m1, hf1⟩ := MW.house hw
                  obtain ⟨f2, m2, hf2⟩ := MW.joined hw
                  obtain ⟨f3, m3, hf3⟩ := MW.spooks hw
                  obtain ⟨f4, m4, hf4⟩ := MW.people hw
                  obtain ⟨f5, m5, hf5⟩ := MW.numbers hw
                  have hlt140 : j < 12 := by omega
                  refine lv_iload hx hb dX5_digest_140 (lv_at hl 0 rfl) ?_
                  refine lv_bipush (v := 12) hx hb dX5_digest_142 (by decide) ?_
                  refine lv_icmp_ge (tgt := 168) hx hb dX5_digest_144 (by decide) (fun c9 => absurd c9 (nI_ge (b := 12) hlt140 (by omega))) (fun c144 => ?_)
                  refine lv_lload_n hx hb dX5_digest_147 rfl (lv_at hl 1 rfl) ?_
                  refine lv_ldc2 (v := 31) hx hb hown (hts _ (by decide +kernel)) dX5_digest_148 ?_
                  refine lv_lmul hx hb dX5_digest_151 ?_
                  refine lv_aload_n hx hb dX5_digest_152 rfl (lv_at hl 3 rfl) ?_
                  refine lv_iload_n hx hb dX5_digest_153 rfl (lv_at hl 2 rfl) ?_
                  refine lv_iload hx hb dX5_digest_154 (lv_at hl 0 rfl) ?_
                  refine m_cV 2 [.int (nI i), .int (nI j)] [.long (w1 * 31)] hx hb hml hown hts hK (c_mplace l E A g M σ 0 hv hw i j (by omega) (by omega)) gX5_digest_X5_place rfl rfl rfl (by decide +kernel) rfl ⟨Nat.le_of_ble_eq_true rfl, Nat.le_of_ble_eq_true rfl⟩ hM (MW.x hw) rfl rfl hM hl.1 (Nat.le_of_ble_eq_true rfl) ⟨Nat.le_of_ble_eq_true rfl, Nat.le_of_ble_eq_true rfl⟩ rfl dX5_digest_156 ?_
                  refine lv_i2l hx hb dX5_digest_159 rfl ?_
                  refine lv_ladd hx hb dX5_digest_160 ?_
                  refine lv_lstore_n (lv' := [(1, .long ((w1 * 31) + ((plc σ i j).toInt64))), (4, .int (nI j)), (3, .int (nI i)), (0, .ref (g 0))]) hx hb dX5_digest_161 rfl hl (by decide) rfl (fun ls hl => ?_)
                  refine lv_iinc (v := nI (j + 1)) (lv' := [(4, .int (nI (j + 1))), (1, .long ((w1 * 31) + ((plc σ i j).toInt64))), (3, .int (nI i)), (0, .ref (g 0))]) hx hb dX5_digest_162 hl (k := 1) rfl (m_inc _) (by decide) rfl (fun ls hl => ?_)
                  refine lv_goto (tgt := 140) hx hb dX5_digest_165 (by decide) ?_
                  exact ih140 (j + 1) (by omega) _ _ _ ⟨hM, hw⟩ hS _ (by rw [ew1]; rfl) ls (lv_sub hl [0, 1, 2, 3] rfl)
              exact lp140 (12) 0 (by omega) _ _ _ ⟨hM, hw⟩ hS _ (rfl) ls (lv_sub hl [0, 2, 1, 3] rfl)
          exact lp129 (kG σ) 0 (by omega) _ _ _ ⟨hM, hw⟩ hS _ (ey1) ls (lv_sub hl [0, 1, 2] rfl)
        | succ n38 ih38 =>
          intro i hi38 H locs M hI hS y1 ey1 ls hl
          obtain ⟨hM, hw⟩ := hI
          obtain ⟨f1, m1, hf1⟩ := MW.house hw
          obtain ⟨f2, m2, hf2⟩ := MW.joined hw
          obtain ⟨f3, m3, hf3⟩ := MW.spooks hw
          obtain ⟨f4, m4, hf4⟩ := MW.people hw
          obtain ⟨f5, m5, hf5⟩ := MW.numbers hw
          have hlt38 : i < kR σ := by omega
          refine lv_iload_n hx hb dX5_digest_38 rfl (lv_at hl 0 rfl) ?_
          refine lv_aload_n hx hb dX5_digest_39 rfl (lv_at hl 2 rfl) ?_
          refine m_get hx hb hts in_X5_digest_X5 hown hK hM (MW.x hw) rfl 1 (by decide) (by decide +kernel) rfl dX5_digest_40 ?_
          refine lv_icmp_ge (tgt := 127) hx hb dX5_digest_43 (by decide) (fun c9 => absurd c9 (nI_ge hlt38 (by omega))) (fun c43 => ?_)
          refine lv_iconst (v := 0) hx hb dX5_digest_46 (by decide) ?_
          refine lv_istore (lv' := [(4, .int 0), (3, .int (nI i)), (1, .long y1), (0, .ref (g 0))]) hx hb dX5_digest_47 hl (by decide) rfl (fun ls hl => ?_)
          have lp49 : ∀ (n49 j : Nat), n49 + j = 6 → ∀ (H : Heap) (locs : List Loc) (M : gM), (mP E A g M H ∧ MW E g M σ 0) → va_S A s.heap H locs → ∀ p1 : Int64, p1 = dF (rmT σ i) y1 j → ∀ ls : Array Slot, lv_has ls 5 [(4, .int (nI j)), (1, .long p1), (3, .int (nI i)), (0, .ref (g 0))] → W p l e ({ frames := 6, cells := 0, slots := 0, locals := 137 } : Room) s m args below meth c H locs 0 0 (MQ below (QW (some (.long (dGu σ (kU σ)))) (fun H => ∃ M', mP E A g M' H ∧ MW E g M' σ 0) A) args s 0 0 A) (F0 m 49 ls []) := by
            intro n49
            induction n49 with
            | zero =>
              intro j hi49 H locs M hI hS p1 ep1 ls hl
              obtain ⟨hM, hw⟩ := hI
              obtain ⟨f1, m1, hf1⟩ := MW.house hw
              obtain ⟨f2, m2, hf2⟩ := MW.joined hw
              obtain ⟨f3, m3, hf3⟩ := MW.spooks hw
              obtain ⟨f4, m4, hf4⟩ := MW.people hw
              obtain ⟨f5, m5, hf5⟩ := MW.numbers hw
              obtain rfl : 6 = j := by omega
              refine lv_iload hx hb dX5_digest_49 (lv_at hl 0 rfl) ?_
              refine lv_bipush (v := 6) hx hb dX5_digest_51 (by decide) ?_
              refine lv_icmp_ge (tgt := 77) hx hb dX5_digest_53 (by decide) (fun c53 => ?_) (fun c9 => absurd (Int32.le_refl _) c9)
              refine lv_iconst (v := 0) hx hb dX5_digest_77 (by decide) ?_
              refine lv_istore (lv' := [(4, .int 0), (1, .long p1), (3, .int (nI i)), (0, .ref (g 0))]) hx hb dX5_digest_78 hl (by decide) rfl (fun ls hl => ?_)
              have lp80 : ∀ (n80 j : Nat), n80 + j = 3 → ∀ (H : Heap) (locs : List Loc) (M : gM), (mP E A g M H ∧ MW E g M σ 0) → va_S A s.heap H locs → ∀ q1 : Int64, q1 = dF (wnT σ i) p1 j → ∀ ls : Array Slot, lv_has ls 5 [(4, .int (nI j)), (1, .long q1), (3, .int (nI i)), (0, .ref (g 0))] → W p l e ({ frames := 6, cells := 0, slots := 0, locals := 137 } : Room) s m args below meth c H locs 0 0 (MQ below (QW (some (.long (dGu σ (kU σ)))) (fun H => ∃ M', mP E A g M' H ∧ MW E g M' σ 0) A) args s 0 0 A) (F0 m 80 ls []) := by
                intro n80
                induction n80 with
                | zero =>
                  intro j hi80 H locs M hI hS q1 eq1 ls hl
                  obtain ⟨hM, hw⟩ := hI
                  obtain ⟨f1, m1, hf1⟩ := MW.house hw
                  obtain ⟨f2, m2, hf2⟩ := MW.joined hw
                  obtain ⟨f3, m3, hf3⟩ := MW.spooks hw
                  obtain ⟨f4, m4, hf4⟩ := MW.people hw
                  obtain ⟨f5, m5, hf5⟩ := MW.numbers hw
                  obtain rfl : 3 = j := by omega
                  refine lv_iload hx hb dX5_digest_80 (lv_at hl 0 rfl) ?_
                  refine lv_iconst (v := 3) hx hb dX5_digest_82 (by decide) ?_
                  refine lv_icmp_ge (tgt := 107) hx hb dX5_digest_83 (by decide) (fun c83 => ?_) (fun c9 => absurd (Int32.le_refl _) c9)
                  refine lv_lload_n hx hb dX5_digest_107 rfl (lv_at hl 1 rfl) ?_
                  refine lv_ldc2 (v := 31) hx hb hown (hts _ (by decide +kernel)) dX5_digest_108 ?_
                  refine lv_lmul hx hb dX5_digest_111 ?_
                  refine lv_aload_n hx hb dX5_digest_112 rfl (lv_at hl 3 rfl) ?_
                  refine lv_iload_n hx hb dX5_digest_113 rfl (lv_at hl 2 rfl) ?_
                  refine lv_iconst (v := (-1)) hx hb dX5_digest_114 (by decide) ?_
                  refine m_cV 2 [.int (nI i), .int (-1)] [.long (q1 * 31)] hx hb hml hown hts hK (c_haunted l E A g M σ 0 hv hw (nI i) (-1)) gX5_digest_X5_haunted rfl rfl rfl (by decide +kernel) rfl ⟨Nat.le_of_ble_eq_true rfl, Nat.le_of_ble_eq_true rfl⟩ hM (MW.x hw) rfl rfl hM hl.1 (Nat.le_of_ble_eq_true rfl) ⟨Nat.le_of_ble_eq_true rfl, Nat.le_of_ble_eq_true rfl⟩ rfl dX5_digest_115 ?_
                  refine lv_i2l hx hb dX5_digest_118 rfl ?_
                  refine lv_ladd hx hb dX5_digest_119 ?_
                  refine lv_lstore_n (lv' := [(1, .long ((q1 * 31) + ((hON σ (nI i) (-1) 12).toInt64))), (4, .int (nI 3)), (3, .int (nI i)), (0, .ref (g 0))]) hx hb dX5_digest_120 rfl hl (by decide) rfl (fun ls hl => ?_)
                  refine lv_iinc (v := nI (i + 1)) (lv' := [(3, .int (nI (i + 1))), (1, .long ((q1 * 31) + ((hON σ (nI i) (-1) 12).toInt64))), (4, .int (nI 3)), (0, .ref (g 0))]) hx hb dX5_digest_121 hl (k := 2) rfl (m_inc _) (by decide) rfl (fun ls hl => ?_)
                  refine lv_goto (tgt := 38) hx hb dX5_digest_124 (by decide) ?_
                  exact ih38 (i + 1) (by omega) _ _ _ ⟨hM, hw⟩ hS _ (by rw [eq1, ep1, ey1]; rfl) ls (lv_sub hl [0, 1, 3] rfl)
                | succ n80 ih80 =>
                  intro j hi80 H locs M hI hS q1 eq1 ls hl
                  obtain ⟨hM, hw⟩ := hI
                  obtain ⟨f1, m1, hf1⟩ := MW.house hw
                  obtain ⟨f2, m2, hf2⟩ := MW.joined hw
                  obtain ⟨f3, m3, hf3⟩ := MW.spooks hw
                  obtain ⟨f4, m4, hf4⟩ := MW.people hw
                  obtain ⟨f5, m5, hf5⟩ := MW.numbers hw
                  have hlt80 : j < 3 := by omega
                  refine lv_iload hx hb dX5_digest_80 (lv_at hl 0 rfl) ?_
                  refine lv_iconst (v := 3) hx hb dX5_digest_82 (by decide) ?_
                  refine lv_icmp_ge (tgt := 107) hx hb dX5_digest_83 (by decide) (fun c9 => absurd c9 (nI_ge (b := 3) hlt80 (by omega))) (fun c83 => ?_)
                  refine lv_lload_n hx hb dX5_digest_86 rfl (lv_at hl 1 rfl) ?_
                  refine lv_ldc2 (v := 31) hx hb hown (hts _ (by decide +kernel)) dX5_digest_87 ?_
                  refine lv_lmul hx hb dX5_digest_90 ?_
                  refine lv_aload_n hx hb dX5_digest_91 rfl (lv_at hl 3 rfl) ?_
                  refine lv_iload_n hx hb dX5_digest_92 rfl (lv_at hl 2 rfl) ?_
                  refine lv_iload hx hb dX5_digest_93 (lv_at hl 0 rfl) ?_
                  refine m_cV 2 [.int (nI i), .int (nI j)] [.long (q1 * 31)] hx hb hml hown hts hK (c_won l E A g M σ 0 hv hw i j (by omega) (by omega)) gX5_digest_X5_won rfl rfl rfl (by decide +kernel) rfl ⟨Nat.le_of_ble_eq_true rfl, Nat.le_of_ble_eq_true rfl⟩ hM (MW.x hw) rfl rfl hM hl.1 (Nat.le_of_ble_eq_true rfl) ⟨Nat.le_of_ble_eq_true rfl, Nat.le_of_ble_eq_true rfl⟩ rfl dX5_digest_95 ?_
                  refine lv_i2l hx hb dX5_digest_98 rfl ?_
                  refine lv_ladd hx hb dX5_digest_99 ?_
                  refine lv_lstore_n (lv' := [(1, .long ((q1 * 31) + ((wnT σ i j).toInt64))), (4, .int (nI j)), (3, .int (nI i)), (0, .ref (g 0))]) hx hb dX5_digest_100 rfl hl (by decide) rfl (fun ls hl => ?_)
                  refine lv_iinc (v := nI (j + 1)) (lv' := [(4, .int (nI (j + 1))), (1, .long ((q1 * 31) + ((wnT σ i j).toInt64))), (3, .int (nI i)), (0, .ref (g 0))]) hx hb dX5_digest_101 hl (k := 1) rfl (m_inc _) (by decide) rfl (fun ls hl => ?_)
                  refine lv_goto (tgt := 80) hx hb dX5_digest_104 (by decide) ?_
                  exact ih80 (j + 1) (by omega) _ _ _ ⟨hM, hw⟩ hS _ (by rw [eq1]; rfl) ls (lv_sub hl [0, 1, 2, 3] rfl)
              exact lp80 (3) 0 (by omega) _ _ _ ⟨hM, hw⟩ hS _ (rfl) ls (lv_sub hl [0, 1, 2, 3] rfl)
            | succ n49 ih49 =>
              intro j hi49 H locs M hI hS p1 ep1 ls hl
              obtain ⟨hM, hw⟩ := hI
              obtain ⟨f1, m1, hf1⟩ := MW.house hw
              obtain ⟨f2, m2, hf2⟩ := MW.joined hw
              obtain ⟨f3, m3, hf3⟩ := MW.spooks hw
              obtain ⟨f4, m4, hf4⟩ := MW.people hw
              obtain ⟨f5, m5, hf5⟩ := MW.numbers hw
              have hlt49 : j < 6 := by omega
              refine lv_iload hx hb dX5_digest_49 (lv_at hl 0 rfl) ?_
              refine lv_bipush (v := 6) hx hb dX5_digest_51 (by decide) ?_
              refine lv_icmp_ge (tgt := 77) hx hb dX5_digest_53 (by decide) (fun c9 => absurd c9 (nI_ge (b := 6) hlt49 (by omega))) (fun c53 => ?_)
              refine lv_lload_n hx hb dX5_digest_56 rfl (lv_at hl 1 rfl) ?_
              refine lv_ldc2 (v := 31) hx hb hown (hts _ (by decide +kernel)) dX5_digest_57 ?_
              refine lv_lmul hx hb dX5_digest_60 ?_
              refine lv_aload_n hx hb dX5_digest_61 rfl (lv_at hl 3 rfl) ?_
              refine lv_iload_n hx hb dX5_digest_62 rfl (lv_at hl 2 rfl) ?_
              refine lv_iload hx hb dX5_digest_63 (lv_at hl 0 rfl) ?_
              refine m_cV 2 [.int (nI i), .int (nI j)] [.long (p1 * 31)] hx hb hml hown hts hK (c_roomTold l E A g M σ 0 hv hw i j (by omega) (by omega)) gX5_digest_X5_roomTold rfl rfl rfl (by decide +kernel) rfl ⟨Nat.le_of_ble_eq_true rfl, Nat.le_of_ble_eq_true rfl⟩ hM (MW.x hw) rfl rfl hM hl.1 (Nat.le_of_ble_eq_true rfl) ⟨Nat.le_of_ble_eq_true rfl, Nat.le_of_ble_eq_true rfl⟩ rfl dX5_digest_65 ?_
              refine lv_i2l hx hb dX5_digest_68 rfl ?_
              refine lv_ladd hx hb dX5_digest_69 ?_
              refine lv_lstore_n (lv' := [(1, .long ((p1 * 31) + ((rmT σ i j).toInt64))), (4, .int (nI j)), (3, .int (nI i)), (0, .ref (g 0))]) hx hb dX5_digest_70 rfl hl (by decide) rfl (fun ls hl => ?_)
              refine lv_iinc (v := nI (j + 1)) (lv' := [(4, .int (nI (j + 1))), (1, .long ((p1 * 31) + ((rmT σ i j).toInt64))), (3, .int (nI i)), (0, .ref (g 0))]) hx hb dX5_digest_71 hl (k := 1) rfl (m_inc _) (by decide) rfl (fun ls hl => ?_)
              refine lv_goto (tgt := 49) hx hb dX5_digest_74 (by decide) ?_
              exact ih49 (j + 1) (by omega) _ _ _ ⟨hM, hw⟩ hS _ (by rw [ep1]; rfl) ls (lv_sub hl [0, 1, 2, 3] rfl)
          exact lp49 (6) 0 (by omega) _ _ _ ⟨hM, hw⟩ hS _ (rfl) ls (lv_sub hl [0, 2, 1, 3] rfl)
      exact lp38 (kR σ) 0 (by omega) _ _ _ ⟨hM, hw⟩ hS _ (ex1) ls (lv_sub hl [0, 1, 2] rfl)
    | succ n11 ih11 =>
      intro i hi11 H locs M hI hS x1 ex1 ls hl
      obtain ⟨hM, hw⟩ := hI
      obtain ⟨f1, m1, hf1⟩ := MW.house hw
      obtain ⟨f2, m2, hf2⟩ := MW.joined hw
      obtain ⟨f3, m3, hf3⟩ := MW.spooks hw
      obtain ⟨f4, m4, hf4⟩ := MW.people hw
      obtain ⟨f5, m5, hf5⟩ := MW.numbers hw
      have hlt11 : i < 9 := by omega
      refine lv_iload_n hx hb dX5_digest_11 rfl (lv_at hl 0 rfl) ?_
      refine lv_bipush (v := 9) hx hb dX5_digest_12 (by decide) ?_
      refine lv_icmp_ge (tgt := 36) hx hb dX5_digest_14 (by decide) (fun c9 => absurd c9 (nI_ge (b := 9) hlt11 (by omega))) (fun c14 => ?_)
      refine lv_lload_n hx hb dX5_digest_17 rfl (lv_at hl 1 rfl) ?_
      refine lv_ldc2 (v := 31) hx hb hown (hts _ (by decide +kernel)) dX5_digest_18 ?_
      refine lv_lmul hx hb dX5_digest_21 ?_
      refine lv_aload_n hx hb dX5_digest_22 rfl (lv_at hl 2 rfl) ?_
      refine lv_iload_n hx hb dX5_digest_23 rfl (lv_at hl 0 rfl) ?_
      refine m_cV 1 [.int (nI i)] [.long (x1 * 31)] hx hb hml hown hts hK (c_counted l E A g M σ 0 hv hw i (by omega)) gX5_digest_X5_counted rfl rfl rfl (by decide +kernel) rfl ⟨Nat.le_of_ble_eq_true rfl, Nat.le_of_ble_eq_true rfl⟩ hM (MW.x hw) rfl rfl hM hl.1 (Nat.le_of_ble_eq_true rfl) ⟨Nat.le_of_ble_eq_true rfl, Nat.le_of_ble_eq_true rfl⟩ rfl dX5_digest_24 ?_
      refine lv_i2l hx hb dX5_digest_27 rfl ?_
      refine lv_ladd hx hb dX5_digest_28 ?_
      refine lv_lstore_n (lv' := [(1, .long ((x1 * 31) + ((ctT σ i).toInt64))), (3, .int (nI i)), (0, .ref (g 0))]) hx hb dX5_digest_29 rfl hl (by decide) rfl (fun ls hl => ?_)
      refine lv_iinc (v := nI (i + 1)) (lv' := [(3, .int (nI (i + 1))), (1, .long ((x1 * 31) + ((ctT σ i).toInt64))), (0, .ref (g 0))]) hx hb dX5_digest_30 hl (k := 1) rfl (m_inc _) (by decide) rfl (fun ls hl => ?_)
      refine lv_goto (tgt := 11) hx hb dX5_digest_33 (by decide) ?_
      exact ih11 (i + 1) (by omega) _ _ _ ⟨hM, hw⟩ hS _ (by rw [ex1]; rfl) ls (lv_sub hl [0, 1, 2] rfl)
  exact lp11 (9) 0 (by omega) _ _ _ ⟨hM, hw⟩ hS _ (rfl) ls (lv_sub hl [0, 1, 2] rfl)
