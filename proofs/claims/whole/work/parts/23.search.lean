/-- the search: asked bits and holders -/
abbrev gK : Type := Int32 × (Nat → Int32)
def kL (rec : Nat → gK → Bool × gK) (al : Int32) (u : Nat) : Nat → Nat → gK → Bool × gK
  | 0, _, t => (false, t)
  | n + 1, r, t => if al &&& (1 <<< (nI r &&& 31)) = 0 then kL rec al u n (r + 1) t else if ¬ t.1 &&& (1 <<< (nI r &&& 31)) = 0 then kL rec al u n (r + 1) t else
    if t.2 r = -1 then (true, t.1 ||| (1 <<< (nI r &&& 31)), upd t.2 r (nI u)) else
    match rec (t.2 r).toNatClampNeg (t.1 ||| (1 <<< (nI r &&& 31)), t.2) with
    | (true, t2) => (true, t2.1, upd t2.2 r (nI u))
    | (false, t2) => kL rec al u n (r + 1) t2
def kF (al : Nat → Int32) : Nat → Nat → gK → Bool × gK
  | 0, _, t => (false, t)
  | d + 1, u, t => kL (kF al d) (al u) u 10 0 t
def HO (ho : Nat → Int32) : Prop := ∀ r, r < 10 → ho r = -1 ∨ ∃ v, v < 12 ∧ ho r = nI v
theorem HO.upd {ho : Nat → Int32} (h : HO ho) (r u : Nat) (hu : u < 12) : HO (upd ho r (nI u)) := by
  intro q hq
  by_cases e : q = r
  · subst e; rw [pk_us]; exact Or.inr ⟨u, hu, rfl⟩
  · rw [pk_un e]; exact h q hq
theorem kL_ok {rec : Nat → gK → Bool × gK} (hr : ∀ v t, v < 12 → HO t.2 → HO (rec v t).2.2) (al : Int32) {u : Nat} (hu : u < 12) : ∀ n r t, n + r ≤ 10 → HO t.2 → HO (kL rec al u n r t).2.2
  | 0, _, t, _, h => h
  | n + 1, r, t, hn, h => by
    rw [kL]
    split
    · exact kL_ok hr al hu n (r + 1) t (by omega) h
    · split
      · exact kL_ok hr al hu n (r + 1) t (by omega) h
      · split
        · exact h.upd r u hu
        · rename_i h1
          obtain ⟨v, hv, e⟩ := (h r (by omega)).resolve_left h1
          have h2 := hr v (t.1 ||| (1 <<< (nI r &&& 31)), t.2) hv h
          rw [e, nI_clamp (by omega)]
          split
          · rename_i t2 e2
            rw [e2] at h2
            exact h2.upd r u hu
          · rename_i t2 e2
            rw [e2] at h2
            exact kL_ok hr al hu n (r + 1) t2 (by omega) h2
theorem kF_ok (al : Nat → Int32) : ∀ d v t, v < 12 → HO t.2 → HO (kF al d v t).2.2
  | 0, _, _, _, h => h
  | d + 1, v, t, hv, h => kL_ok (fun w t2 hw h2 => kF_ok al d w t2 hw h2) (al v) hv 10 0 t (by decide) h
/-- the seating's cells -/
def mS4 (E : gE) (g : Nat → Nat) (M : gM) (t : gK) : gM := mu (mu M 4 (.inr (4, [.ref (g 5), .ref (g 6), .int t.1]))) 6 (.inl (E.2.1, 10, .inl t.2))
section
variable {E : gE} {g : Nat → Nat} {M : gM} {t : gK}
theorem mS4_4 : mS4 E g M t 4 = some (.inr (4, [.ref (g 5), .ref (g 6), .int t.1])) := rfl
theorem mS4_5 : mS4 E g M t 5 = M 5 := rfl
theorem mS4_6 : mS4 E g M t 6 = some (.inl (E.2.1, 10, .inl t.2)) := rfl
theorem mS4_id {sa : Int32} {ho : Nat → Int32} (h4 : M 4 = some (.inr (4, [.ref (g 5), .ref (g 6), .int sa]))) (h6 : M 6 = some (.inl (E.2.1, 10, .inl ho))) : mS4 E g M (sa, ho) = M := by
  rw [mS4, mu_id h4, mu_id h6]
theorem mS4_p4 {x : Int32} : mu (mS4 E g M t) 4 (.inr (4, [.ref (g 5), .ref (g 6), .int x])) = mS4 E g M (x, t.2) := by
  funext q
  by_cases e : q = 4
  · subst e; rfl
  · rw [mu_n e]
    by_cases e6 : q = 6
    · subst e6; rfl
    · rw [mS4, mS4, mu_n e6, mu_n e6, mu_n e, mu_n e]
theorem mS4_p6 {f : Nat → Int32} : mu (mS4 E g M t) 6 (.inl (E.2.1, 10, .inl f)) = mS4 E g M (t.1, f) := by
  rw [mS4, mu_mu]; rfl
theorem mS4_2 {t2 : gK} : mS4 E g (mS4 E g M t) t2 = mS4 E g M t2 := by
  funext q
  by_cases e6 : q = 6
  · subst e6; rfl
  · by_cases e : q = 4
    · subst e; rfl
    · rw [mS4, mu_n e6, mu_n e, mS4, mu_n e6, mu_n e, mS4, mu_n e6, mu_n e]
end

theorem in_X3_findRoom_X3 : ∀ w ∈ u_ws RX3 TX3 3, w ∈ wsX3_findRoom := by decide +kernel
set_option maxHeartbeats 4000000 in
set_option maxRecDepth 100000 in
theorem c_find0 (l : Launch) (E : gE) (A : Nat → Prop) (g : Nat → Nat) (M : gM) (al : Nat → Int32) (sa : Int32) (ho : Nat → Int32) (h4 : M 4 = some (.inr (4, [.ref (g 5), .ref (g 6), .int sa]))) (h5 : M 5 = some (.inl (E.2.1, 12, .inl al))) (h6 : M 6 = some (.inl (E.2.1, 10, .inl ho))) (hho : HO ho) (u : Nat) (hu : u < 12) : Met l yX3_findRoom wsX3_findRoom ({ frames := 0, cells := 0, slots := 0, locals := 0 } : Room) (Pm E [.ref (g 4), .int (nI u), .int 11] (mP E A g M)) (QW (some (.int (bI (kF al 0 u (sa, ho)).1))) (mP E A g (mS4 E g M (kF al 0 u (sa, ho)).2)) A) 0 0 A := by
  refine m_entry (by decide) rfl (Nat.le_of_ble_eq_true rfl) ?_
  intro p e s m args below meth c hx hb hr hml hts hown hlocks hin hM hK ls hl
  have hl : lv_has ls 6 [(0, .ref (g 4)), (1, .int (nI u)), (2, .int 11)] := hl
  have hown : s.vm.findClass RX3 = some m.cls := hown
  have hS : va_S A s.heap s.heap [] := va_S.rf
  skip
  refine lv_iload_n hx hb dX3_findRoom_0 rfl (lv_at hl 1 rfl) ?_
  refine lv_if_lt (tgt := 19) hx hb dX3_findRoom_1 (by decide) (fun c9 => absurd c9 (nI_pos (by omega))) (fun c1 => ?_)
  refine lv_iload_n hx hb dX3_findRoom_4 rfl (lv_at hl 1 rfl) ?_
  refine lv_aload_n hx hb dX3_findRoom_5 rfl (lv_at hl 0 rfl) ?_
  refine m_get hx hb hts in_X3_findRoom_X3 hown hK hM h4 rfl 0 (by decide) (by decide +kernel) rfl dX3_findRoom_6 ?_
  refine m_alen (v := nI 12) hx hb hK hM h5 rfl dX3_findRoom_9 ?_
  refine lv_icmp_ge (tgt := 19) hx hb dX3_findRoom_10 (by decide) (fun c9 => absurd c9 (nI_ge hu (by decide))) (fun c10 => ?_)
  refine lv_iload_n hx hb dX3_findRoom_13 rfl (lv_at hl 2 rfl) ?_
  refine lv_bipush (v := 10) hx hb dX3_findRoom_14 (by decide) ?_
  refine lv_icmp_le (tgt := 21) hx hb dX3_findRoom_16 (by decide) (fun c9 => absurd c9 (by decide)) (fun c9 => ?_)
  refine lv_iconst (v := 0) hx hb dX3_findRoom_19 (by decide) ?_
  exact w_z hx hb hr hlocks dX3_findRoom_20 hS (Nat.le_of_ble_eq_true rfl) (Nat.le_of_ble_eq_true rfl) (rfl) (by rw [show (kF al 0 u (sa, ho)).2 = (sa, ho) from rfl, mS4_id h4 h6]; exact hM)
set_option maxHeartbeats 4000000 in
set_option maxRecDepth 100000 in
theorem c_find1 (l : Launch) (E : gE) (A : Nat → Prop) (g : Nat → Nat) (M : gM) (al : Nat → Int32) (sa : Int32) (ho : Nat → Int32) (h4 : M 4 = some (.inr (4, [.ref (g 5), .ref (g 6), .int sa]))) (h5 : M 5 = some (.inl (E.2.1, 12, .inl al))) (h6 : M 6 = some (.inl (E.2.1, 10, .inl ho))) (hho : HO ho) (u : Nat) (hu : u < 12) : Met l yX3_findRoom wsX3_findRoom ({ frames := 1, cells := 0, slots := 0, locals := 25 } : Room) (Pm E [.ref (g 4), .int (nI u), .int 10] (mP E A g M)) (QW (some (.int (bI (kF al 1 u (sa, ho)).1))) (mP E A g (mS4 E g M (kF al 1 u (sa, ho)).2)) A) 0 0 A := by
  refine m_entry (by decide) rfl (Nat.le_of_ble_eq_true rfl) ?_
  intro p e s m args below meth c hx hb hr hml hts hown hlocks hin hM hK ls hl
  have hl : lv_has ls 6 [(0, .ref (g 4)), (1, .int (nI u)), (2, .int 10)] := hl
  have hown : s.vm.findClass RX3 = some m.cls := hown
  have hS : va_S A s.heap s.heap [] := va_S.rf
  skip
  refine lv_iload_n hx hb dX3_findRoom_0 rfl (lv_at hl 1 rfl) ?_
  refine lv_if_lt (tgt := 19) hx hb dX3_findRoom_1 (by decide) (fun c9 => absurd c9 (nI_pos (by omega))) (fun c1 => ?_)
  refine lv_iload_n hx hb dX3_findRoom_4 rfl (lv_at hl 1 rfl) ?_
  refine lv_aload_n hx hb dX3_findRoom_5 rfl (lv_at hl 0 rfl) ?_
  refine m_get hx hb hts in_X3_findRoom_X3 hown hK hM h4 rfl 0 (by decide) (by decide +kernel) rfl dX3_findRoom_6 ?_
  refine m_alen (v := nI 12) hx hb hK hM h5 rfl dX3_findRoom_9 ?_
  refine lv_icmp_ge (tgt := 19) hx hb dX3_findRoom_10 (by decide) (fun c9 => absurd c9 (nI_ge hu (by decide))) (fun c10 => ?_)
  refine lv_iload_n hx hb dX3_findRoom_13 rfl (lv_at hl 2 rfl) ?_
  refine lv_bipush (v := 10) hx hb dX3_findRoom_14 (by decide) ?_
  refine lv_icmp_le (tgt := 21) hx hb dX3_findRoom_16 (by decide) (fun c9 => ?_) (fun c9 => absurd c9 (by decide))
  refine lv_iconst (v := 0) hx hb dX3_findRoom_21 (by decide) ?_
  refine lv_istore_n (lv' := [(3, .int 0), (0, .ref (g 4)), (1, .int (nI u)), (2, .int 10)]) hx hb dX3_findRoom_22 rfl hl (by decide) rfl (fun ls hl => ?_)
  have lp23 : ∀ (n23 i : Nat), n23 + i = 10 → ∀ (H : Heap) (locs : List Loc) (t : gK), (mP E A g (mS4 E g M t) H ∧ HO t.2 ∧ kL (kF al 0) (al u) u (10 - i) i t = kF al 1 u (sa, ho)) → va_S A s.heap H locs → ∀ ls : Array Slot, lv_has ls 6 [(3, .int (nI i)), (0, .ref (g 4)), (1, .int (nI u)), (2, .int 10)] → W p l e ({ frames := 1, cells := 0, slots := 0, locals := 25 } : Room) s m args below meth c H locs 0 0 (MQ below (QW (some (.int (bI (kF al 1 u (sa, ho)).1))) (mP E A g (mS4 E g M (kF al 1 u (sa, ho)).2)) A) args s 0 0 A) (F0 m 23 ls []) := by
    intro n23
    induction n23 with
    | zero =>
      intro i hi23 H locs t hI hS ls hl
      obtain ⟨hM, hHO, hkL⟩ := hI
      obtain rfl : 10 = i := by omega
      refine lv_iload_n hx hb dX3_findRoom_23 rfl (lv_at hl 0 rfl) ?_
      refine lv_aload_n hx hb dX3_findRoom_24 rfl (lv_at hl 1 rfl) ?_
      refine m_get hx hb hts in_X3_findRoom_X3 hown hK hM mS4_4 rfl 1 (by decide) (by decide +kernel) rfl dX3_findRoom_25 ?_
      refine m_alen (v := nI 10) hx hb hK hM mS4_6 rfl dX3_findRoom_28 ?_
      refine lv_icmp_ge (tgt := 111) hx hb dX3_findRoom_29 (by decide) (fun c29 => ?_) (fun c9 => absurd (Int32.le_refl _) c9)
      refine lv_iconst (v := 0) hx hb dX3_findRoom_111 (by decide) ?_
      exact w_z hx hb hr hlocks dX3_findRoom_112 hS (Nat.le_of_ble_eq_true rfl) (Nat.le_of_ble_eq_true rfl) (by rw [← hkL]; rfl) (by rw [← hkL]; exact hM)
    | succ n23 ih23 =>
      intro i hi23 H locs t hI hS ls hl
      obtain ⟨hM, hHO, hkL⟩ := hI
      have hlt23 : i < 10 := by omega
      refine lv_iload_n hx hb dX3_findRoom_23 rfl (lv_at hl 0 rfl) ?_
      refine lv_aload_n hx hb dX3_findRoom_24 rfl (lv_at hl 1 rfl) ?_
      refine m_get hx hb hts in_X3_findRoom_X3 hown hK hM mS4_4 rfl 1 (by decide) (by decide +kernel) rfl dX3_findRoom_25 ?_
      refine m_alen (v := nI 10) hx hb hK hM mS4_6 rfl dX3_findRoom_28 ?_
      refine lv_icmp_ge (tgt := 111) hx hb dX3_findRoom_29 (by decide) (fun c9 => absurd c9 (nI_ge (b := 10) hlt23 (by omega))) (fun c29 => ?_)
      refine lv_iconst (v := 1) hx hb dX3_findRoom_32 (by decide) ?_
      refine lv_iload_n hx hb dX3_findRoom_33 rfl (lv_at hl 0 rfl) ?_
      refine lv_ishl hx hb dX3_findRoom_34 ?_
      refine lv_istore (lv' := [(4, .int (1 <<< ((nI i) &&& 31))), (3, .int (nI i)), (0, .ref (g 4)), (1, .int (nI u)), (2, .int 10)]) hx hb dX3_findRoom_35 hl (by decide) rfl (fun ls hl => ?_)
      refine lv_aload_n hx hb dX3_findRoom_37 rfl (lv_at hl 2 rfl) ?_
      refine m_get hx hb hts in_X3_findRoom_X3 hown hK hM mS4_4 rfl 0 (by decide) (by decide +kernel) rfl dX3_findRoom_38 ?_
      refine lv_iload_n hx hb dX3_findRoom_41 rfl (lv_at hl 3 rfl) ?_
      refine m_iald (v := al u) hx hb hK hM (mS4_5.trans h5) (ix_ok (by omega)) (rd_ok (by omega) rfl) dX3_findRoom_42 ?_
      refine lv_iload hx hb dX3_findRoom_43 (lv_at hl 0 rfl) ?_
      refine lv_iand hx hb dX3_findRoom_45 ?_
      refine lv_if_eq (tgt := 105) hx hb dX3_findRoom_46 (by decide) (fun c46 => ?_) (fun c46 => ?_)
      · refine lv_iinc (v := nI (i + 1)) (lv' := [(3, .int (nI (i + 1))), (4, .int (1 <<< ((nI i) &&& 31))), (0, .ref (g 4)), (1, .int (nI u)), (2, .int 10)]) hx hb dX3_findRoom_105 hl (k := 1) rfl (m_inc _) (by decide) rfl (fun ls hl => ?_)
        refine lv_goto (tgt := 23) hx hb dX3_findRoom_108 (by decide) ?_
        exact ih23 (i + 1) (by omega) _ _ t ⟨hM, hHO, by rw [show 10 - i = (10 - (i + 1)) + 1 by omega, kL, if_pos c46] at hkL; exact hkL⟩ hS ls (lv_sub hl [0, 2, 3, 4] rfl)
      · refine lv_aload_n hx hb dX3_findRoom_49 rfl (lv_at hl 2 rfl) ?_
        refine m_get hx hb hts in_X3_findRoom_X3 hown hK hM mS4_4 rfl 2 (by decide) (by decide +kernel) rfl dX3_findRoom_50 ?_
        refine lv_iload hx hb dX3_findRoom_53 (lv_at hl 0 rfl) ?_
        refine lv_iand hx hb dX3_findRoom_55 ?_
        refine lv_if_ne (tgt := 105) hx hb dX3_findRoom_56 (by decide) (fun c56 => ?_) (fun c56 => ?_)
        · refine lv_iinc (v := nI (i + 1)) (lv' := [(3, .int (nI (i + 1))), (4, .int (1 <<< ((nI i) &&& 31))), (0, .ref (g 4)), (1, .int (nI u)), (2, .int 10)]) hx hb dX3_findRoom_105 hl (k := 1) rfl (m_inc _) (by decide) rfl (fun ls hl => ?_)
          refine lv_goto (tgt := 23) hx hb dX3_findRoom_108 (by decide) ?_
          exact ih23 (i + 1) (by omega) _ _ t ⟨hM, hHO, by rw [show 10 - i = (10 - (i + 1)) + 1 by omega, kL, if_neg c46, if_pos c56] at hkL; exact hkL⟩ hS ls (lv_sub hl [0, 2, 3, 4] rfl)
        · refine lv_aload_n hx hb dX3_findRoom_59 rfl (lv_at hl 2 rfl) ?_
          refine lv_dup hx hb dX3_findRoom_60 rfl ?_
          refine m_get hx hb hts in_X3_findRoom_X3 hown hK hM mS4_4 rfl 2 (by decide) (by decide +kernel) rfl dX3_findRoom_61 ?_
          refine lv_iload hx hb dX3_findRoom_64 (lv_at hl 0 rfl) ?_
          refine lv_ior hx hb dX3_findRoom_66 ?_
          refine m_put hx hb hts in_X3_findRoom_X3 tyX3 tyX3_ok nmX3 hown hK hM hS mS4_4 rfl 2 (by decide) (by decide +kernel) rfl (tyX3_ok 2 (by decide)) rfl rfl (Nat.le_of_ble_eq_true rfl) dX3_findRoom_67 (fun H locs hM hz hS => ?_)
          have hM : mP E A g (mu (mS4 E g M t) 4 (.inr (4, [.ref (g 5), .ref (g 6), .int (t.1 ||| (1 <<< ((nI i) &&& 31)))]))) H := hM
          rw [mS4_p4] at hM
          refine lv_aload_n hx hb dX3_findRoom_70 rfl (lv_at hl 2 rfl) ?_
          refine m_get hx hb hts in_X3_findRoom_X3 hown hK hM mS4_4 rfl 1 (by decide) (by decide +kernel) rfl dX3_findRoom_71 ?_
          refine lv_iload_n hx hb dX3_findRoom_74 rfl (lv_at hl 1 rfl) ?_
          refine m_iald (v := t.2 i) hx hb hK hM mS4_6 (ix_ok (by omega)) (rd_ok (by omega) rfl) dX3_findRoom_75 ?_
          refine lv_istore (lv' := [(5, .int (t.2 i)), (4, .int (1 <<< ((nI i) &&& 31))), (3, .int (nI i)), (0, .ref (g 4)), (1, .int (nI u)), (2, .int 10)]) hx hb dX3_findRoom_76 hl (by decide) rfl (fun ls hl => ?_)
          refine lv_iload hx hb dX3_findRoom_78 (lv_at hl 0 rfl) ?_
          refine lv_iconst (v := (-1)) hx hb dX3_findRoom_80 (by decide) ?_
          refine lv_icmp_eq (tgt := 96) hx hb dX3_findRoom_81 (by decide) (fun c81 => ?_) (fun c81 => ?_)
          · refine lv_aload_n hx hb dX3_findRoom_96 rfl (lv_at hl 3 rfl) ?_
            refine m_get hx hb hts in_X3_findRoom_X3 hown hK hM mS4_4 rfl 1 (by decide) (by decide +kernel) rfl dX3_findRoom_97 ?_
            refine lv_iload_n hx hb dX3_findRoom_100 rfl (lv_at hl 2 rfl) ?_
            refine lv_iload_n hx hb dX3_findRoom_101 rfl (lv_at hl 4 rfl) ?_
            refine m_iast hx hb hK hM hS mS4_6 (ix_ok (by omega)) dX3_findRoom_102 (fun H locs hM hz hS => ?_)
            rw [mS4_p6] at hM
            refine lv_iconst (v := 1) hx hb dX3_findRoom_103 (by decide) ?_
            exact w_z hx hb hr hlocks dX3_findRoom_104 hS (Nat.le_of_ble_eq_true rfl) (Nat.le_of_ble_eq_true rfl) (by rw [← hkL, show 10 - i = (10 - (i + 1)) + 1 by omega, kL, if_neg c46, if_neg (fun q => q c56), if_pos c81]; rfl) (by rw [← hkL, show 10 - i = (10 - (i + 1)) + 1 by omega, kL, if_neg c46, if_neg (fun q => q c56), if_pos c81]; rw [nI_clamp (show i < 2 ^ 31 by omega)] at hM; exact hM)
          · obtain ⟨v9, hv8, hv9⟩ := (hHO i (by omega)).resolve_left c81
            rw [hv9] at hl
            refine lv_aload_n hx hb dX3_findRoom_84 rfl (lv_at hl 3 rfl) ?_
            refine lv_iload hx hb dX3_findRoom_85 (lv_at hl 0 rfl) ?_
            refine lv_iload_n hx hb dX3_findRoom_87 rfl (lv_at hl 5 rfl) ?_
            refine lv_iconst (v := 1) hx hb dX3_findRoom_88 (by decide) ?_
            refine lv_iadd hx hb dX3_findRoom_89 ?_
            rw [show ((10 : Int32) + 1) = 11 from by decide]
            refine m_wS 3 [.ref (g 4), .int (nI v9), .int 11] [] hx hb hml hown hts hK (c_find0 l E A g (mS4 E g M (t.1 ||| (1 <<< ((nI i) &&& 31)), t.2)) al (t.1 ||| (1 <<< ((nI i) &&& 31))) t.2 mS4_4 (mS4_5.trans h5) mS4_6 hHO v9 hv8) gX3_findRoom_X3_findRoom rfl rfl rfl (by decide +kernel) rfl ⟨Nat.le_of_ble_eq_true rfl, Nat.le_of_ble_eq_true rfl⟩ hM hl.1 (Nat.le_of_ble_eq_true rfl) ⟨Nat.le_of_ble_eq_true rfl, Nat.le_of_ble_eq_true rfl⟩ rfl dX3_findRoom_90 hS (fun _ _ h => h) (fun _ h => h) (fun H locs hQ hz hk hS => ?_)
            refine W.eq (g2 := F0 m 93 ls [.int (bI (kF al 0 v9 (t.1 ||| (1 <<< ((nI i) &&& 31)), t.2)).1)]) rfl ?_
            rw [mS4_2] at hQ
            obtain ⟨b9, t9, hr9⟩ : ∃ b t', kF al 0 v9 (t.1 ||| (1 <<< ((nI i) &&& 31)), t.2) = (b, t') := ⟨_, _, rfl⟩
            have hHO9 := kF_ok al 0 v9 (t.1 ||| (1 <<< ((nI i) &&& 31)), t.2) hv8 hHO
            rw [hr9] at hQ hHO9 ⊢
            have hM : mP E A g (mS4 E g M t9) H := hQ
            refine W.eq (g2 := F0 m 93 ls [.int (bI b9)]) rfl ?_
            refine lv_if_eq (tgt := 105) hx hb dX3_findRoom_93 (by decide) (fun c93 => ?_) (fun c93 => ?_)
            · have c93 := bI_f c93
              subst c93
              refine lv_iinc (v := nI (i + 1)) (lv' := [(3, .int (nI (i + 1))), (5, .int (nI v9)), (4, .int (1 <<< ((nI i) &&& 31))), (0, .ref (g 4)), (1, .int (nI u)), (2, .int 10)]) hx hb dX3_findRoom_105 hl (k := 2) rfl (m_inc _) (by decide) rfl (fun ls hl => ?_)
              refine lv_goto (tgt := 23) hx hb dX3_findRoom_108 (by decide) ?_
              exact ih23 (i + 1) (by omega) _ _ t9 ⟨hM, hHO9, by rw [show 10 - i = (10 - (i + 1)) + 1 by omega, kL, if_neg c46, if_neg (fun q => q c56), if_neg c81, hv9, nI_clamp (show v9 < 2 ^ 31 by omega), hr9] at hkL; exact hkL⟩ hS ls (lv_sub hl [0, 3, 4, 5] rfl)
            · have c93 := bI_t c93
              subst c93
              refine lv_aload_n hx hb dX3_findRoom_96 rfl (lv_at hl 3 rfl) ?_
              refine m_get hx hb hts in_X3_findRoom_X3 hown hK hM mS4_4 rfl 1 (by decide) (by decide +kernel) rfl dX3_findRoom_97 ?_
              refine lv_iload_n hx hb dX3_findRoom_100 rfl (lv_at hl 2 rfl) ?_
              refine lv_iload_n hx hb dX3_findRoom_101 rfl (lv_at hl 4 rfl) ?_
              refine m_iast hx hb hK hM hS mS4_6 (ix_ok (by omega)) dX3_findRoom_102 (fun H locs hM hz hS => ?_)
              rw [mS4_p6] at hM
              refine lv_iconst (v := 1) hx hb dX3_findRoom_103 (by decide) ?_
              exact w_z hx hb hr hlocks dX3_findRoom_104 hS (Nat.le_of_ble_eq_true rfl) (Nat.le_of_ble_eq_true rfl) (by rw [← hkL, show 10 - i = (10 - (i + 1)) + 1 by omega, kL, if_neg c46, if_neg (fun q => q c56), if_neg c81, hv9, nI_clamp (show v9 < 2 ^ 31 by omega), hr9]; rfl) (by rw [← hkL, show 10 - i = (10 - (i + 1)) + 1 by omega, kL, if_neg c46, if_neg (fun q => q c56), if_neg c81, hv9, nI_clamp (show v9 < 2 ^ 31 by omega), hr9]; rw [nI_clamp (show i < 2 ^ 31 by omega)] at hM; exact hM)
  exact lp23 (10) 0 (by omega) _ _ (sa, ho) ⟨by rw [mS4_id h4 h6]; exact hM, hho, rfl⟩ hS ls (lv_sub hl [0, 1, 2, 3] rfl)
set_option maxHeartbeats 4000000 in
set_option maxRecDepth 100000 in
theorem c_find2 (l : Launch) (E : gE) (A : Nat → Prop) (g : Nat → Nat) (M : gM) (al : Nat → Int32) (sa : Int32) (ho : Nat → Int32) (h4 : M 4 = some (.inr (4, [.ref (g 5), .ref (g 6), .int sa]))) (h5 : M 5 = some (.inl (E.2.1, 12, .inl al))) (h6 : M 6 = some (.inl (E.2.1, 10, .inl ho))) (hho : HO ho) (u : Nat) (hu : u < 12) : Met l yX3_findRoom wsX3_findRoom ({ frames := 2, cells := 0, slots := 0, locals := 50 } : Room) (Pm E [.ref (g 4), .int (nI u), .int 9] (mP E A g M)) (QW (some (.int (bI (kF al 2 u (sa, ho)).1))) (mP E A g (mS4 E g M (kF al 2 u (sa, ho)).2)) A) 0 0 A := by
  refine m_entry (by decide) rfl (Nat.le_of_ble_eq_true rfl) ?_
  intro p e s m args below meth c hx hb hr hml hts hown hlocks hin hM hK ls hl
  have hl : lv_has ls 6 [(0, .ref (g 4)), (1, .int (nI u)), (2, .int 9)] := hl
  have hown : s.vm.findClass RX3 = some m.cls := hown
  have hS : va_S A s.heap s.heap [] := va_S.rf
  skip
  refine lv_iload_n hx hb dX3_findRoom_0 rfl (lv_at hl 1 rfl) ?_
  refine lv_if_lt (tgt := 19) hx hb dX3_findRoom_1 (by decide) (fun c9 => absurd c9 (nI_pos (by omega))) (fun c1 => ?_)
  refine lv_iload_n hx hb dX3_findRoom_4 rfl (lv_at hl 1 rfl) ?_
  refine lv_aload_n hx hb dX3_findRoom_5 rfl (lv_at hl 0 rfl) ?_
  refine m_get hx hb hts in_X3_findRoom_X3 hown hK hM h4 rfl 0 (by decide) (by decide +kernel) rfl dX3_findRoom_6 ?_
  refine m_alen (v := nI 12) hx hb hK hM h5 rfl dX3_findRoom_9 ?_
  refine lv_icmp_ge (tgt := 19) hx hb dX3_findRoom_10 (by decide) (fun c9 => absurd c9 (nI_ge hu (by decide))) (fun c10 => ?_)
  refine lv_iload_n hx hb dX3_findRoom_13 rfl (lv_at hl 2 rfl) ?_
  refine lv_bipush (v := 10) hx hb dX3_findRoom_14 (by decide) ?_
  refine lv_icmp_le (tgt := 21) hx hb dX3_findRoom_16 (by decide) (fun c9 => ?_) (fun c9 => absurd c9 (by decide))
  refine lv_iconst (v := 0) hx hb dX3_findRoom_21 (by decide) ?_
  refine lv_istore_n (lv' := [(3, .int 0), (0, .ref (g 4)), (1, .int (nI u)), (2, .int 9)]) hx hb dX3_findRoom_22 rfl hl (by decide) rfl (fun ls hl => ?_)
  have lp23 : ∀ (n23 i : Nat), n23 + i = 10 → ∀ (H : Heap) (locs : List Loc) (t : gK), (mP E A g (mS4 E g M t) H ∧ HO t.2 ∧ kL (kF al 1) (al u) u (10 - i) i t = kF al 2 u (sa, ho)) → va_S A s.heap H locs → ∀ ls : Array Slot, lv_has ls 6 [(3, .int (nI i)), (0, .ref (g 4)), (1, .int (nI u)), (2, .int 9)] → W p l e ({ frames := 2, cells := 0, slots := 0, locals := 50 } : Room) s m args below meth c H locs 0 0 (MQ below (QW (some (.int (bI (kF al 2 u (sa, ho)).1))) (mP E A g (mS4 E g M (kF al 2 u (sa, ho)).2)) A) args s 0 0 A) (F0 m 23 ls []) := by
    intro n23
    induction n23 with
    | zero =>
      intro i hi23 H locs t hI hS ls hl
      obtain ⟨hM, hHO, hkL⟩ := hI
      obtain rfl : 10 = i := by omega
      refine lv_iload_n hx hb dX3_findRoom_23 rfl (lv_at hl 0 rfl) ?_
      refine lv_aload_n hx hb dX3_findRoom_24 rfl (lv_at hl 1 rfl) ?_
      refine m_get hx hb hts in_X3_findRoom_X3 hown hK hM mS4_4 rfl 1 (by decide) (by decide +kernel) rfl dX3_findRoom_25 ?_
      refine m_alen (v := nI 10) hx hb hK hM mS4_6 rfl dX3_findRoom_28 ?_
      refine lv_icmp_ge (tgt := 111) hx hb dX3_findRoom_29 (by decide) (fun c29 => ?_) (fun c9 => absurd (Int32.le_refl _) c9)
      refine lv_iconst (v := 0) hx hb dX3_findRoom_111 (by decide) ?_
      exact w_z hx hb hr hlocks dX3_findRoom_112 hS (Nat.le_of_ble_eq_true rfl) (Nat.le_of_ble_eq_true rfl) (by rw [← hkL]; rfl) (by rw [← hkL]; exact hM)
    | succ n23 ih23 =>
      intro i hi23 H locs t hI hS ls hl
      obtain ⟨hM, hHO, hkL⟩ := hI
      have hlt23 : i < 10 := by omega
      refine lv_iload_n hx hb dX3_findRoom_23 rfl (lv_at hl 0 rfl) ?_
      refine lv_aload_n hx hb dX3_findRoom_24 rfl (lv_at hl 1 rfl) ?_
      refine m_get hx hb hts in_X3_findRoom_X3 hown hK hM mS4_4 rfl 1 (by decide) (by decide +kernel) rfl dX3_findRoom_25 ?_
      refine m_alen (v := nI 10) hx hb hK hM mS4_6 rfl dX3_findRoom_28 ?_
      refine lv_icmp_ge (tgt := 111) hx hb dX3_findRoom_29 (by decide) (fun c9 => absurd c9 (nI_ge (b := 10) hlt23 (by omega))) (fun c29 => ?_)
      refine lv_iconst (v := 1) hx hb dX3_findRoom_32 (by decide) ?_
      refine lv_iload_n hx hb dX3_findRoom_33 rfl (lv_at hl 0 rfl) ?_
      refine lv_ishl hx hb dX3_findRoom_34 ?_
      refine lv_istore (lv' := [(4, .int (1 <<< ((nI i) &&& 31))), (3, .int (nI i)), (0, .ref (g 4)), (1, .int (nI u)), (2, .int 9)]) hx hb dX3_findRoom_35 hl (by decide) rfl (fun ls hl => ?_)
      refine lv_aload_n hx hb dX3_findRoom_37 rfl (lv_at hl 2 rfl) ?_
      refine m_get hx hb hts in_X3_findRoom_X3 hown hK hM mS4_4 rfl 0 (by decide) (by decide +kernel) rfl dX3_findRoom_38 ?_
      refine lv_iload_n hx hb dX3_findRoom_41 rfl (lv_at hl 3 rfl) ?_
      refine m_iald (v := al u) hx hb hK hM (mS4_5.trans h5) (ix_ok (by omega)) (rd_ok (by omega) rfl) dX3_findRoom_42 ?_
      refine lv_iload hx hb dX3_findRoom_43 (lv_at hl 0 rfl) ?_
      refine lv_iand hx hb dX3_findRoom_45 ?_
      refine lv_if_eq (tgt := 105) hx hb dX3_findRoom_46 (by decide) (fun c46 => ?_) (fun c46 => ?_)
      · refine lv_iinc (v := nI (i + 1)) (lv' := [(3, .int (nI (i + 1))), (4, .int (1 <<< ((nI i) &&& 31))), (0, .ref (g 4)), (1, .int (nI u)), (2, .int 9)]) hx hb dX3_findRoom_105 hl (k := 1) rfl (m_inc _) (by decide) rfl (fun ls hl => ?_)
        refine lv_goto (tgt := 23) hx hb dX3_findRoom_108 (by decide) ?_
        exact ih23 (i + 1) (by omega) _ _ t ⟨hM, hHO, by rw [show 10 - i = (10 - (i + 1)) + 1 by omega, kL, if_pos c46] at hkL; exact hkL⟩ hS ls (lv_sub hl [0, 2, 3, 4] rfl)
      · refine lv_aload_n hx hb dX3_findRoom_49 rfl (lv_at hl 2 rfl) ?_
        refine m_get hx hb hts in_X3_findRoom_X3 hown hK hM mS4_4 rfl 2 (by decide) (by decide +kernel) rfl dX3_findRoom_50 ?_
        refine lv_iload hx hb dX3_findRoom_53 (lv_at hl 0 rfl) ?_
        refine lv_iand hx hb dX3_findRoom_55 ?_
        refine lv_if_ne (tgt := 105) hx hb dX3_findRoom_56 (by decide) (fun c56 => ?_) (fun c56 => ?_)
        · refine lv_iinc (v := nI (i + 1)) (lv' := [(3, .int (nI (i + 1))), (4, .int (1 <<< ((nI i) &&& 31))), (0, .ref (g 4)), (1, .int (nI u)), (2, .int 9)]) hx hb dX3_findRoom_105 hl (k := 1) rfl (m_inc _) (by decide) rfl (fun ls hl => ?_)
          refine lv_goto (tgt := 23) hx hb dX3_findRoom_108 (by decide) ?_
          exact ih23 (i + 1) (by omega) _ _ t ⟨hM, hHO, by rw [show 10 - i = (10 - (i + 1)) + 1 by omega, kL, if_neg c46, if_pos c56] at hkL; exact hkL⟩ hS ls (lv_sub hl [0, 2, 3, 4] rfl)
        · refine lv_aload_n hx hb dX3_findRoom_59 rfl (lv_at hl 2 rfl) ?_
          refine lv_dup hx hb dX3_findRoom_60 rfl ?_
          refine m_get hx hb hts in_X3_findRoom_X3 hown hK hM mS4_4 rfl 2 (by decide) (by decide +kernel) rfl dX3_findRoom_61 ?_
          refine lv_iload hx hb dX3_findRoom_64 (lv_at hl 0 rfl) ?_
          refine lv_ior hx hb dX3_findRoom_66 ?_
          refine m_put hx hb hts in_X3_findRoom_X3 tyX3 tyX3_ok nmX3 hown hK hM hS mS4_4 rfl 2 (by decide) (by decide +kernel) rfl (tyX3_ok 2 (by decide)) rfl rfl (Nat.le_of_ble_eq_true rfl) dX3_findRoom_67 (fun H locs hM hz hS => ?_)
          have hM : mP E A g (mu (mS4 E g M t) 4 (.inr (4, [.ref (g 5), .ref (g 6), .int (t.1 ||| (1 <<< ((nI i) &&& 31)))]))) H := hM
          rw [mS4_p4] at hM
          refine lv_aload_n hx hb dX3_findRoom_70 rfl (lv_at hl 2 rfl) ?_
          refine m_get hx hb hts in_X3_findRoom_X3 hown hK hM mS4_4 rfl 1 (by decide) (by decide +kernel) rfl dX3_findRoom_71 ?_
          refine lv_iload_n hx hb dX3_findRoom_74 rfl (lv_at hl 1 rfl) ?_
          refine m_iald (v := t.2 i) hx hb hK hM mS4_6 (ix_ok (by omega)) (rd_ok (by omega) rfl) dX3_findRoom_75 ?_
          refine lv_istore (lv' := [(5, .int (t.2 i)), (4, .int (1 <<< ((nI i) &&& 31))), (3, .int (nI i)), (0, .ref (g 4)), (1, .int (nI u)), (2, .int 9)]) hx hb dX3_findRoom_76 hl (by decide) rfl (fun ls hl => ?_)
          refine lv_iload hx hb dX3_findRoom_78 (lv_at hl 0 rfl) ?_
          refine lv_iconst (v := (-1)) hx hb dX3_findRoom_80 (by decide) ?_
          refine lv_icmp_eq (tgt := 96) hx hb dX3_findRoom_81 (by decide) (fun c81 => ?_) (fun c81 => ?_)
          · refine lv_aload_n hx hb dX3_findRoom_96 rfl (lv_at hl 3 rfl) ?_
            refine m_get hx hb hts in_X3_findRoom_X3 hown hK hM mS4_4 rfl 1 (by decide) (by decide +kernel) rfl dX3_findRoom_97 ?_
            refine lv_iload_n hx hb dX3_findRoom_100 rfl (lv_at hl 2 rfl) ?_
            refine lv_iload_n hx hb dX3_findRoom_101 rfl (lv_at hl 4 rfl) ?_
            refine m_iast hx hb hK hM hS mS4_6 (ix_ok (by omega)) dX3_findRoom_102 (fun H locs hM hz hS => ?_)
            rw [mS4_p6] at hM
            refine lv_iconst (v := 1) hx hb dX3_findRoom_103 (by decide) ?_
            exact w_z hx hb hr hlocks dX3_findRoom_104 hS (Nat.le_of_ble_eq_true rfl) (Nat.le_of_ble_eq_true rfl) (by rw [← hkL, show 10 - i = (10 - (i + 1)) + 1 by omega, kL, if_neg c46, if_neg (fun q => q c56), if_pos c81]; rfl) (by rw [← hkL, show 10 - i = (10 - (i + 1)) + 1 by omega, kL, if_neg c46, if_neg (fun q => q c56), if_pos c81]; rw [nI_clamp (show i < 2 ^ 31 by omega)] at hM; exact hM)
          · obtain ⟨v9, hv8, hv9⟩ := (hHO i (by omega)).resolve_left c81
            rw [hv9] at hl
            refine lv_aload_n hx hb dX3_findRoom_84 rfl (lv_at hl 3 rfl) ?_
            refine lv_iload hx hb dX3_findRoom_85 (lv_at hl 0 rfl) ?_
            refine lv_iload_n hx hb dX3_findRoom_87 rfl (lv_at hl 5 rfl) ?_
            refine lv_iconst (v := 1) hx hb dX3_findRoom_88 (by decide) ?_
            refine lv_iadd hx hb dX3_findRoom_89 ?_
            rw [show ((9 : Int32) + 1) = 10 from by decide]
            refine m_wS 3 [.ref (g 4), .int (nI v9), .int 10] [] hx hb hml hown hts hK (c_find1 l E A g (mS4 E g M (t.1 ||| (1 <<< ((nI i) &&& 31)), t.2)) al (t.1 ||| (1 <<< ((nI i) &&& 31))) t.2 mS4_4 (mS4_5.trans h5) mS4_6 hHO v9 hv8) gX3_findRoom_X3_findRoom rfl rfl rfl (by decide +kernel) rfl ⟨Nat.le_of_ble_eq_true rfl, Nat.le_of_ble_eq_true rfl⟩ hM hl.1 (Nat.le_of_ble_eq_true rfl) ⟨Nat.le_of_ble_eq_true rfl, Nat.le_of_ble_eq_true rfl⟩ rfl dX3_findRoom_90 hS (fun _ _ h => h) (fun _ h => h) (fun H locs hQ hz hk hS => ?_)
            refine W.eq (g2 := F0 m 93 ls [.int (bI (kF al 1 v9 (t.1 ||| (1 <<< ((nI i) &&& 31)), t.2)).1)]) rfl ?_
            rw [mS4_2] at hQ
            obtain ⟨b9, t9, hr9⟩ : ∃ b t', kF al 1 v9 (t.1 ||| (1 <<< ((nI i) &&& 31)), t.2) = (b, t') := ⟨_, _, rfl⟩
            have hHO9 := kF_ok al 1 v9 (t.1 ||| (1 <<< ((nI i) &&& 31)), t.2) hv8 hHO
            rw [hr9] at hQ hHO9 ⊢
            have hM : mP E A g (mS4 E g M t9) H := hQ
            refine W.eq (g2 := F0 m 93 ls [.int (bI b9)]) rfl ?_
            refine lv_if_eq (tgt := 105) hx hb dX3_findRoom_93 (by decide) (fun c93 => ?_) (fun c93 => ?_)
            · have c93 := bI_f c93
              subst c93
              refine lv_iinc (v := nI (i + 1)) (lv' := [(3, .int (nI (i + 1))), (5, .int (nI v9)), (4, .int (1 <<< ((nI i) &&& 31))), (0, .ref (g 4)), (1, .int (nI u)), (2, .int 9)]) hx hb dX3_findRoom_105 hl (k := 2) rfl (m_inc _) (by decide) rfl (fun ls hl => ?_)
              refine lv_goto (tgt := 23) hx hb dX3_findRoom_108 (by decide) ?_
              exact ih23 (i + 1) (by omega) _ _ t9 ⟨hM, hHO9, by rw [show 10 - i = (10 - (i + 1)) + 1 by omega, kL, if_neg c46, if_neg (fun q => q c56), if_neg c81, hv9, nI_clamp (show v9 < 2 ^ 31 by omega), hr9] at hkL; exact hkL⟩ hS ls (lv_sub hl [0, 3, 4, 5] rfl)
            · have c93 := bI_t c93
              subst c93
              refine lv_aload_n hx hb dX3_findRoom_96 rfl (lv_at hl 3 rfl) ?_
              refine m_get hx hb hts in_X3_findRoom_X3 hown hK hM mS4_4 rfl 1 (by decide) (by decide +kernel) rfl dX3_findRoom_97 ?_
              refine lv_iload_n hx hb dX3_findRoom_100 rfl (lv_at hl 2 rfl) ?_
              refine lv_iload_n hx hb dX3_findRoom_101 rfl (lv_at hl 4 rfl) ?_
              refine m_iast hx hb hK hM hS mS4_6 (ix_ok (by omega)) dX3_findRoom_102 (fun H locs hM hz hS => ?_)
              rw [mS4_p6] at hM
              refine lv_iconst (v := 1) hx hb dX3_findRoom_103 (by decide) ?_
              exact w_z hx hb hr hlocks dX3_findRoom_104 hS (Nat.le_of_ble_eq_true rfl) (Nat.le_of_ble_eq_true rfl) (by rw [← hkL, show 10 - i = (10 - (i + 1)) + 1 by omega, kL, if_neg c46, if_neg (fun q => q c56), if_neg c81, hv9, nI_clamp (show v9 < 2 ^ 31 by omega), hr9]; rfl) (by rw [← hkL, show 10 - i = (10 - (i + 1)) + 1 by omega, kL, if_neg c46, if_neg (fun q => q c56), if_neg c81, hv9, nI_clamp (show v9 < 2 ^ 31 by omega), hr9]; rw [nI_clamp (show i < 2 ^ 31 by omega)] at hM; exact hM)
  exact lp23 (10) 0 (by omega) _ _ (sa, ho) ⟨by rw [mS4_id h4 h6]; exact hM, hho, rfl⟩ hS ls (lv_sub hl [0, 1, 2, 3] rfl)
set_option maxHeartbeats 4000000 in
set_option maxRecDepth 100000 in
theorem c_find3 (l : Launch) (E : gE) (A : Nat → Prop) (g : Nat → Nat) (M : gM) (al : Nat → Int32) (sa : Int32) (ho : Nat → Int32) (h4 : M 4 = some (.inr (4, [.ref (g 5), .ref (g 6), .int sa]))) (h5 : M 5 = some (.inl (E.2.1, 12, .inl al))) (h6 : M 6 = some (.inl (E.2.1, 10, .inl ho))) (hho : HO ho) (u : Nat) (hu : u < 12) : Met l yX3_findRoom wsX3_findRoom ({ frames := 3, cells := 0, slots := 0, locals := 75 } : Room) (Pm E [.ref (g 4), .int (nI u), .int 8] (mP E A g M)) (QW (some (.int (bI (kF al 3 u (sa, ho)).1))) (mP E A g (mS4 E g M (kF al 3 u (sa, ho)).2)) A) 0 0 A := by
  refine m_entry (by decide) rfl (Nat.le_of_ble_eq_true rfl) ?_
  intro p e s m args below meth c hx hb hr hml hts hown hlocks hin hM hK ls hl
  have hl : lv_has ls 6 [(0, .ref (g 4)), (1, .int (nI u)), (2, .int 8)] := hl
  have hown : s.vm.findClass RX3 = some m.cls := hown
  have hS : va_S A s.heap s.heap [] := va_S.rf
  skip
  refine lv_iload_n hx hb dX3_findRoom_0 rfl (lv_at hl 1 rfl) ?_
  refine lv_if_lt (tgt := 19) hx hb dX3_findRoom_1 (by decide) (fun c9 => absurd c9 (nI_pos (by omega))) (fun c1 => ?_)
  refine lv_iload_n hx hb dX3_findRoom_4 rfl (lv_at hl 1 rfl) ?_
  refine lv_aload_n hx hb dX3_findRoom_5 rfl (lv_at hl 0 rfl) ?_
  refine m_get hx hb hts in_X3_findRoom_X3 hown hK hM h4 rfl 0 (by decide) (by decide +kernel) rfl dX3_findRoom_6 ?_
  refine m_alen (v := nI 12) hx hb hK hM h5 rfl dX3_findRoom_9 ?_
  refine lv_icmp_ge (tgt := 19) hx hb dX3_findRoom_10 (by decide) (fun c9 => absurd c9 (nI_ge hu (by decide))) (fun c10 => ?_)
  refine lv_iload_n hx hb dX3_findRoom_13 rfl (lv_at hl 2 rfl) ?_
  refine lv_bipush (v := 10) hx hb dX3_findRoom_14 (by decide) ?_
  refine lv_icmp_le (tgt := 21) hx hb dX3_findRoom_16 (by decide) (fun c9 => ?_) (fun c9 => absurd c9 (by decide))
  refine lv_iconst (v := 0) hx hb dX3_findRoom_21 (by decide) ?_
  refine lv_istore_n (lv' := [(3, .int 0), (0, .ref (g 4)), (1, .int (nI u)), (2, .int 8)]) hx hb dX3_findRoom_22 rfl hl (by decide) rfl (fun ls hl => ?_)
  have lp23 : ∀ (n23 i : Nat), n23 + i = 10 → ∀ (H : Heap) (locs : List Loc) (t : gK), (mP E A g (mS4 E g M t) H ∧ HO t.2 ∧ kL (kF al 2) (al u) u (10 - i) i t = kF al 3 u (sa, ho)) → va_S A s.heap H locs → ∀ ls : Array Slot, lv_has ls 6 [(3, .int (nI i)), (0, .ref (g 4)), (1, .int (nI u)), (2, .int 8)] → W p l e ({ frames := 3, cells := 0, slots := 0, locals := 75 } : Room) s m args below meth c H locs 0 0 (MQ below (QW (some (.int (bI (kF al 3 u (sa, ho)).1))) (mP E A g (mS4 E g M (kF al 3 u (sa, ho)).2)) A) args s 0 0 A) (F0 m 23 ls []) := by
    intro n23
    induction n23 with
    | zero =>
      intro i hi23 H locs t hI hS ls hl
      obtain ⟨hM, hHO, hkL⟩ := hI
      obtain rfl : 10 = i := by omega
      refine lv_iload_n hx hb dX3_findRoom_23 rfl (lv_at hl 0 rfl) ?_
      refine lv_aload_n hx hb dX3_findRoom_24 rfl (lv_at hl 1 rfl) ?_
      refine m_get hx hb hts in_X3_findRoom_X3 hown hK hM mS4_4 rfl 1 (by decide) (by decide +kernel) rfl dX3_findRoom_25 ?_
      refine m_alen (v := nI 10) hx hb hK hM mS4_6 rfl dX3_findRoom_28 ?_
      refine lv_icmp_ge (tgt := 111) hx hb dX3_findRoom_29 (by decide) (fun c29 => ?_) (fun c9 => absurd (Int32.le_refl _) c9)
      refine lv_iconst (v := 0) hx hb dX3_findRoom_111 (by decide) ?_
      exact w_z hx hb hr hlocks dX3_findRoom_112 hS (Nat.le_of_ble_eq_true rfl) (Nat.le_of_ble_eq_true rfl) (by rw [← hkL]; rfl) (by rw [← hkL]; exact hM)
    | succ n23 ih23 =>
      intro i hi23 H locs t hI hS ls hl
      obtain ⟨hM, hHO, hkL⟩ := hI
      have hlt23 : i < 10 := by omega
      refine lv_iload_n hx hb dX3_findRoom_23 rfl (lv_at hl 0 rfl) ?_
      refine lv_aload_n hx hb dX3_findRoom_24 rfl (lv_at hl 1 rfl) ?_
      refine m_get hx hb hts in_X3_findRoom_X3 hown hK hM mS4_4 rfl 1 (by decide) (by decide +kernel) rfl dX3_findRoom_25 ?_
      refine m_alen (v := nI 10) hx hb hK hM mS4_6 rfl dX3_findRoom_28 ?_
      refine lv_icmp_ge (tgt := 111) hx hb dX3_findRoom_29 (by decide) (fun c9 => absurd c9 (nI_ge (b := 10) hlt23 (by omega))) (fun c29 => ?_)
      refine lv_iconst (v := 1) hx hb dX3_findRoom_32 (by decide) ?_
      refine lv_iload_n hx hb dX3_findRoom_33 rfl (lv_at hl 0 rfl) ?_
      refine lv_ishl hx hb dX3_findRoom_34 ?_
      refine lv_istore (lv' := [(4, .int (1 <<< ((nI i) &&& 31))), (3, .int (nI i)), (0, .ref (g 4)), (1, .int (nI u)), (2, .int 8)]) hx hb dX3_findRoom_35 hl (by decide) rfl (fun ls hl => ?_)
      refine lv_aload_n hx hb dX3_findRoom_37 rfl (lv_at hl 2 rfl) ?_
      refine m_get hx hb hts in_X3_findRoom_X3 hown hK hM mS4_4 rfl 0 (by decide) (by decide +kernel) rfl dX3_findRoom_38 ?_
      refine lv_iload_n hx hb dX3_findRoom_41 rfl (lv_at hl 3 rfl) ?_
      refine m_iald (v := al u) hx hb hK hM (mS4_5.trans h5) (ix_ok (by omega)) (rd_ok (by omega) rfl) dX3_findRoom_42 ?_
      refine lv_iload hx hb dX3_findRoom_43 (lv_at hl 0 rfl) ?_
      refine lv_iand hx hb dX3_findRoom_45 ?_
      refine lv_if_eq (tgt := 105) hx hb dX3_findRoom_46 (by decide) (fun c46 => ?_) (fun c46 => ?_)
      · refine lv_iinc (v := nI (i + 1)) (lv' := [(3, .int (nI (i + 1))), (4, .int (1 <<< ((nI i) &&& 31))), (0, .ref (g 4)), (1, .int (nI u)), (2, .int 8)]) hx hb dX3_findRoom_105 hl (k := 1) rfl (m_inc _) (by decide) rfl (fun ls hl => ?_)
        refine lv_goto (tgt := 23) hx hb dX3_findRoom_108 (by decide) ?_
        exact ih23 (i + 1) (by omega) _ _ t ⟨hM, hHO, by rw [show 10 - i = (10 - (i + 1)) + 1 by omega, kL, if_pos c46] at hkL; exact hkL⟩ hS ls (lv_sub hl [0, 2, 3, 4] rfl)
      · refine lv_aload_n hx hb dX3_findRoom_49 rfl (lv_at hl 2 rfl) ?_
        refine m_get hx hb hts in_X3_findRoom_X3 hown hK hM mS4_4 rfl 2 (by decide) (by decide +kernel) rfl dX3_findRoom_50 ?_
        refine lv_iload hx hb dX3_findRoom_53 (lv_at hl 0 rfl) ?_
        refine lv_iand hx hb dX3_findRoom_55 ?_
        refine lv_if_ne (tgt := 105) hx hb dX3_findRoom_56 (by decide) (fun c56 => ?_) (fun c56 => ?_)
        · refine lv_iinc (v := nI (i + 1)) (lv' := [(3, .int (nI (i + 1))), (4, .int (1 <<< ((nI i) &&& 31))), (0, .ref (g 4)), (1, .int (nI u)), (2, .int 8)]) hx hb dX3_findRoom_105 hl (k := 1) rfl (m_inc _) (by decide) rfl (fun ls hl => ?_)
          refine lv_goto (tgt := 23) hx hb dX3_findRoom_108 (by decide) ?_
          exact ih23 (i + 1) (by omega) _ _ t ⟨hM, hHO, by rw [show 10 - i = (10 - (i + 1)) + 1 by omega, kL, if_neg c46, if_pos c56] at hkL; exact hkL⟩ hS ls (lv_sub hl [0, 2, 3, 4] rfl)
        · refine lv_aload_n hx hb dX3_findRoom_59 rfl (lv_at hl 2 rfl) ?_
          refine lv_dup hx hb dX3_findRoom_60 rfl ?_
          refine m_get hx hb hts in_X3_findRoom_X3 hown hK hM mS4_4 rfl 2 (by decide) (by decide +kernel) rfl dX3_findRoom_61 ?_
          refine lv_iload hx hb dX3_findRoom_64 (lv_at hl 0 rfl) ?_
          refine lv_ior hx hb dX3_findRoom_66 ?_
          refine m_put hx hb hts in_X3_findRoom_X3 tyX3 tyX3_ok nmX3 hown hK hM hS mS4_4 rfl 2 (by decide) (by decide +kernel) rfl (tyX3_ok 2 (by decide)) rfl rfl (Nat.le_of_ble_eq_true rfl) dX3_findRoom_67 (fun H locs hM hz hS => ?_)
          have hM : mP E A g (mu (mS4 E g M t) 4 (.inr (4, [.ref (g 5), .ref (g 6), .int (t.1 ||| (1 <<< ((nI i) &&& 31)))]))) H := hM
          rw [mS4_p4] at hM
          refine lv_aload_n hx hb dX3_findRoom_70 rfl (lv_at hl 2 rfl) ?_
          refine m_get hx hb hts in_X3_findRoom_X3 hown hK hM mS4_4 rfl 1 (by decide) (by decide +kernel) rfl dX3_findRoom_71 ?_
          refine lv_iload_n hx hb dX3_findRoom_74 rfl (lv_at hl 1 rfl) ?_
          refine m_iald (v := t.2 i) hx hb hK hM mS4_6 (ix_ok (by omega)) (rd_ok (by omega) rfl) dX3_findRoom_75 ?_
          refine lv_istore (lv' := [(5, .int (t.2 i)), (4, .int (1 <<< ((nI i) &&& 31))), (3, .int (nI i)), (0, .ref (g 4)), (1, .int (nI u)), (2, .int 8)]) hx hb dX3_findRoom_76 hl (by decide) rfl (fun ls hl => ?_)
          refine lv_iload hx hb dX3_findRoom_78 (lv_at hl 0 rfl) ?_
          refine lv_iconst (v := (-1)) hx hb dX3_findRoom_80 (by decide) ?_
          refine lv_icmp_eq (tgt := 96) hx hb dX3_findRoom_81 (by decide) (fun c81 => ?_) (fun c81 => ?_)
          · refine lv_aload_n hx hb dX3_findRoom_96 rfl (lv_at hl 3 rfl) ?_
            refine m_get hx hb hts in_X3_findRoom_X3 hown hK hM mS4_4 rfl 1 (by decide) (by decide +kernel) rfl dX3_findRoom_97 ?_
            refine lv_iload_n hx hb dX3_findRoom_100 rfl (lv_at hl 2 rfl) ?_
            refine lv_iload_n hx hb dX3_findRoom_101 rfl (lv_at hl 4 rfl) ?_
            refine m_iast hx hb hK hM hS mS4_6 (ix_ok (by omega)) dX3_findRoom_102 (fun H locs hM hz hS => ?_)
            rw [mS4_p6] at hM
            refine lv_iconst (v := 1) hx hb dX3_findRoom_103 (by decide) ?_
            exact w_z hx hb hr hlocks dX3_findRoom_104 hS (Nat.le_of_ble_eq_true rfl) (Nat.le_of_ble_eq_true rfl) (by rw [← hkL, show 10 - i = (10 - (i + 1)) + 1 by omega, kL, if_neg c46, if_neg (fun q => q c56), if_pos c81]; rfl) (by rw [← hkL, show 10 - i = (10 - (i + 1)) + 1 by omega, kL, if_neg c46, if_neg (fun q => q c56), if_pos c81]; rw [nI_clamp (show i < 2 ^ 31 by omega)] at hM; exact hM)
          · obtain ⟨v9, hv8, hv9⟩ := (hHO i (by omega)).resolve_left c81
            rw [hv9] at hl
            refine lv_aload_n hx hb dX3_findRoom_84 rfl (lv_at hl 3 rfl) ?_
            refine lv_iload hx hb dX3_findRoom_85 (lv_at hl 0 rfl) ?_
            refine lv_iload_n hx hb dX3_findRoom_87 rfl (lv_at hl 5 rfl) ?_
            refine lv_iconst (v := 1) hx hb dX3_findRoom_88 (by decide) ?_
            refine lv_iadd hx hb dX3_findRoom_89 ?_
            rw [show ((8 : Int32) + 1) = 9 from by decide]
            refine m_wS 3 [.ref (g 4), .int (nI v9), .int 9] [] hx hb hml hown hts hK (c_find2 l E A g (mS4 E g M (t.1 ||| (1 <<< ((nI i) &&& 31)), t.2)) al (t.1 ||| (1 <<< ((nI i) &&& 31))) t.2 mS4_4 (mS4_5.trans h5) mS4_6 hHO v9 hv8) gX3_findRoom_X3_findRoom rfl rfl rfl (by decide +kernel) rfl ⟨Nat.le_of_ble_eq_true rfl, Nat.le_of_ble_eq_true rfl⟩ hM hl.1 (Nat.le_of_ble_eq_true rfl) ⟨Nat.le_of_ble_eq_true rfl, Nat.le_of_ble_eq_true rfl⟩ rfl dX3_findRoom_90 hS (fun _ _ h => h) (fun _ h => h) (fun H locs hQ hz hk hS => ?_)
            refine W.eq (g2 := F0 m 93 ls [.int (bI (kF al 2 v9 (t.1 ||| (1 <<< ((nI i) &&& 31)), t.2)).1)]) rfl ?_
            rw [mS4_2] at hQ
            obtain ⟨b9, t9, hr9⟩ : ∃ b t', kF al 2 v9 (t.1 ||| (1 <<< ((nI i) &&& 31)), t.2) = (b, t') := ⟨_, _, rfl⟩
            have hHO9 := kF_ok al 2 v9 (t.1 ||| (1 <<< ((nI i) &&& 31)), t.2) hv8 hHO
            rw [hr9] at hQ hHO9 ⊢
            have hM : mP E A g (mS4 E g M t9) H := hQ
            refine W.eq (g2 := F0 m 93 ls [.int (bI b9)]) rfl ?_
            refine lv_if_eq (tgt := 105) hx hb dX3_findRoom_93 (by decide) (fun c93 => ?_) (fun c93 => ?_)
            · have c93 := bI_f c93
              subst c93
              refine lv_iinc (v := nI (i + 1)) (lv' := [(3, .int (nI (i + 1))), (5, .int (nI v9)), (4, .int (1 <<< ((nI i) &&& 31))), (0, .ref (g 4)), (1, .int (nI u)), (2, .int 8)]) hx hb dX3_findRoom_105 hl (k := 2) rfl (m_inc _) (by decide) rfl (fun ls hl => ?_)
              refine lv_goto (tgt := 23) hx hb dX3_findRoom_108 (by decide) ?_
              exact ih23 (i + 1) (by omega) _ _ t9 ⟨hM, hHO9, by rw [show 10 - i = (10 - (i + 1)) + 1 by omega, kL, if_neg c46, if_neg (fun q => q c56), if_neg c81, hv9, nI_clamp (show v9 < 2 ^ 31 by omega), hr9] at hkL; exact hkL⟩ hS ls (lv_sub hl [0, 3, 4, 5] rfl)
            · have c93 := bI_t c93
              subst c93
              refine lv_aload_n hx hb dX3_findRoom_96 rfl (lv_at hl 3 rfl) ?_
              refine m_get hx hb hts in_X3_findRoom_X3 hown hK hM mS4_4 rfl 1 (by decide) (by decide +kernel) rfl dX3_findRoom_97 ?_
              refine lv_iload_n hx hb dX3_findRoom_100 rfl (lv_at hl 2 rfl) ?_
              refine lv_iload_n hx hb dX3_findRoom_101 rfl (lv_at hl 4 rfl) ?_
              refine m_iast hx hb hK hM hS mS4_6 (ix_ok (by omega)) dX3_findRoom_102 (fun H locs hM hz hS => ?_)
              rw [mS4_p6] at hM
              refine lv_iconst (v := 1) hx hb dX3_findRoom_103 (by decide) ?_
              exact w_z hx hb hr hlocks dX3_findRoom_104 hS (Nat.le_of_ble_eq_true rfl) (Nat.le_of_ble_eq_true rfl) (by rw [← hkL, show 10 - i = (10 - (i + 1)) + 1 by omega, kL, if_neg c46, if_neg (fun q => q c56), if_neg c81, hv9, nI_clamp (show v9 < 2 ^ 31 by omega), hr9]; rfl) (by rw [← hkL, show 10 - i = (10 - (i + 1)) + 1 by omega, kL, if_neg c46, if_neg (fun q => q c56), if_neg c81, hv9, nI_clamp (show v9 < 2 ^ 31 by omega), hr9]; rw [nI_clamp (show i < 2 ^ 31 by omega)] at hM; exact hM)
  exact lp23 (10) 0 (by omega) _ _ (sa, ho) ⟨by rw [mS4_id h4 h6]; exact hM, hho, rfl⟩ hS ls (lv_sub hl [0, 1, 2, 3] rfl)
set_option maxHeartbeats 4000000 in
set_option maxRecDepth 100000 in
theorem c_find4 (l : Launch) (E : gE) (A : Nat → Prop) (g : Nat → Nat) (M : gM) (al : Nat → Int32) (sa : Int32) (ho : Nat → Int32) (h4 : M 4 = some (.inr (4, [.ref (g 5), .ref (g 6), .int sa]))) (h5 : M 5 = some (.inl (E.2.1, 12, .inl al))) (h6 : M 6 = some (.inl (E.2.1, 10, .inl ho))) (hho : HO ho) (u : Nat) (hu : u < 12) : Met l yX3_findRoom wsX3_findRoom ({ frames := 4, cells := 0, slots := 0, locals := 100 } : Room) (Pm E [.ref (g 4), .int (nI u), .int 7] (mP E A g M)) (QW (some (.int (bI (kF al 4 u (sa, ho)).1))) (mP E A g (mS4 E g M (kF al 4 u (sa, ho)).2)) A) 0 0 A := by
  refine m_entry (by decide) rfl (Nat.le_of_ble_eq_true rfl) ?_
  intro p e s m args below meth c hx hb hr hml hts hown hlocks hin hM hK ls hl
  have hl : lv_has ls 6 [(0, .ref (g 4)), (1, .int (nI u)), (2, .int 7)] := hl
  have hown : s.vm.findClass RX3 = some m.cls := hown
  have hS : va_S A s.heap s.heap [] := va_S.rf
  skip
  refine lv_iload_n hx hb dX3_findRoom_0 rfl (lv_at hl 1 rfl) ?_
  refine lv_if_lt (tgt := 19) hx hb dX3_findRoom_1 (by decide) (fun c9 => absurd c9 (nI_pos (by omega))) (fun c1 => ?_)
  refine lv_iload_n hx hb dX3_findRoom_4 rfl (lv_at hl 1 rfl) ?_
  refine lv_aload_n hx hb dX3_findRoom_5 rfl (lv_at hl 0 rfl) ?_
  refine m_get hx hb hts in_X3_findRoom_X3 hown hK hM h4 rfl 0 (by decide) (by decide +kernel) rfl dX3_findRoom_6 ?_
  refine m_alen (v := nI 12) hx hb hK hM h5 rfl dX3_findRoom_9 ?_
  refine lv_icmp_ge (tgt := 19) hx hb dX3_findRoom_10 (by decide) (fun c9 => absurd c9 (nI_ge hu (by decide))) (fun c10 => ?_)
  refine lv_iload_n hx hb dX3_findRoom_13 rfl (lv_at hl 2 rfl) ?_
  refine lv_bipush (v := 10) hx hb dX3_findRoom_14 (by decide) ?_
  refine lv_icmp_le (tgt := 21) hx hb dX3_findRoom_16 (by decide) (fun c9 => ?_) (fun c9 => absurd c9 (by decide))
  refine lv_iconst (v := 0) hx hb dX3_findRoom_21 (by decide) ?_
  refine lv_istore_n (lv' := [(3, .int 0), (0, .ref (g 4)), (1, .int (nI u)), (2, .int 7)]) hx hb dX3_findRoom_22 rfl hl (by decide) rfl (fun ls hl => ?_)
  have lp23 : ∀ (n23 i : Nat), n23 + i = 10 → ∀ (H : Heap) (locs : List Loc) (t : gK), (mP E A g (mS4 E g M t) H ∧ HO t.2 ∧ kL (kF al 3) (al u) u (10 - i) i t = kF al 4 u (sa, ho)) → va_S A s.heap H locs → ∀ ls : Array Slot, lv_has ls 6 [(3, .int (nI i)), (0, .ref (g 4)), (1, .int (nI u)), (2, .int 7)] → W p l e ({ frames := 4, cells := 0, slots := 0, locals := 100 } : Room) s m args below meth c H locs 0 0 (MQ below (QW (some (.int (bI (kF al 4 u (sa, ho)).1))) (mP E A g (mS4 E g M (kF al 4 u (sa, ho)).2)) A) args s 0 0 A) (F0 m 23 ls []) := by
    intro n23
    induction n23 with
    | zero =>
      intro i hi23 H locs t hI hS ls hl
      obtain ⟨hM, hHO, hkL⟩ := hI
      obtain rfl : 10 = i := by omega
      refine lv_iload_n hx hb dX3_findRoom_23 rfl (lv_at hl 0 rfl) ?_
      refine lv_aload_n hx hb dX3_findRoom_24 rfl (lv_at hl 1 rfl) ?_
      refine m_get hx hb hts in_X3_findRoom_X3 hown hK hM mS4_4 rfl 1 (by decide) (by decide +kernel) rfl dX3_findRoom_25 ?_
      refine m_alen (v := nI 10) hx hb hK hM mS4_6 rfl dX3_findRoom_28 ?_
      refine lv_icmp_ge (tgt := 111) hx hb dX3_findRoom_29 (by decide) (fun c29 => ?_) (fun c9 => absurd (Int32.le_refl _) c9)
      refine lv_iconst (v := 0) hx hb dX3_findRoom_111 (by decide) ?_
      exact w_z hx hb hr hlocks dX3_findRoom_112 hS (Nat.le_of_ble_eq_true rfl) (Nat.le_of_ble_eq_true rfl) (by rw [← hkL]; rfl) (by rw [← hkL]; exact hM)
    | succ n23 ih23 =>
      intro i hi23 H locs t hI hS ls hl
      obtain ⟨hM, hHO, hkL⟩ := hI
      have hlt23 : i < 10 := by omega
      refine lv_iload_n hx hb dX3_findRoom_23 rfl (lv_at hl 0 rfl) ?_
      refine lv_aload_n hx hb dX3_findRoom_24 rfl (lv_at hl 1 rfl) ?_
      refine m_get hx hb hts in_X3_findRoom_X3 hown hK hM mS4_4 rfl 1 (by decide) (by decide +kernel) rfl dX3_findRoom_25 ?_
      refine m_alen (v := nI 10) hx hb hK hM mS4_6 rfl dX3_findRoom_28 ?_
      refine lv_icmp_ge (tgt := 111) hx hb dX3_findRoom_29 (by decide) (fun c9 => absurd c9 (nI_ge (b := 10) hlt23 (by omega))) (fun c29 => ?_)
      refine lv_iconst (v := 1) hx hb dX3_findRoom_32 (by decide) ?_
      refine lv_iload_n hx hb dX3_findRoom_33 rfl (lv_at hl 0 rfl) ?_
      refine lv_ishl hx hb dX3_findRoom_34 ?_
      refine lv_istore (lv' := [(4, .int (1 <<< ((nI i) &&& 31))), (3, .int (nI i)), (0, .ref (g 4)), (1, .int (nI u)), (2, .int 7)]) hx hb dX3_findRoom_35 hl (by decide) rfl (fun ls hl => ?_)
      refine lv_aload_n hx hb dX3_findRoom_37 rfl (lv_at hl 2 rfl) ?_
      refine m_get hx hb hts in_X3_findRoom_X3 hown hK hM mS4_4 rfl 0 (by decide) (by decide +kernel) rfl dX3_findRoom_38 ?_
      refine lv_iload_n hx hb dX3_findRoom_41 rfl (lv_at hl 3 rfl) ?_
      refine m_iald (v := al u) hx hb hK hM (mS4_5.trans h5) (ix_ok (by omega)) (rd_ok (by omega) rfl) dX3_findRoom_42 ?_
      refine lv_iload hx hb dX3_findRoom_43 (lv_at hl 0 rfl) ?_
      refine lv_iand hx hb dX3_findRoom_45 ?_
      refine lv_if_eq (tgt := 105) hx hb dX3_findRoom_46 (by decide) (fun c46 => ?_) (fun c46 => ?_)
      · refine lv_iinc (v := nI (i + 1)) (lv' := [(3, .int (nI (i + 1))), (4, .int (1 <<< ((nI i) &&& 31))), (0, .ref (g 4)), (1, .int (nI u)), (2, .int 7)]) hx hb dX3_findRoom_105 hl (k := 1) rfl (m_inc _) (by decide) rfl (fun ls hl => ?_)
        refine lv_goto (tgt := 23) hx hb dX3_findRoom_108 (by decide) ?_
        exact ih23 (i + 1) (by omega) _ _ t ⟨hM, hHO, by rw [show 10 - i = (10 - (i + 1)) + 1 by omega, kL, if_pos c46] at hkL; exact hkL⟩ hS ls (lv_sub hl [0, 2, 3, 4] rfl)
      · refine lv_aload_n hx hb dX3_findRoom_49 rfl (lv_at hl 2 rfl) ?_
        refine m_get hx hb hts in_X3_findRoom_X3 hown hK hM mS4_4 rfl 2 (by decide) (by decide +kernel) rfl dX3_findRoom_50 ?_
        refine lv_iload hx hb dX3_findRoom_53 (lv_at hl 0 rfl) ?_
        refine lv_iand hx hb dX3_findRoom_55 ?_
        refine lv_if_ne (tgt := 105) hx hb dX3_findRoom_56 (by decide) (fun c56 => ?_) (fun c56 => ?_)
        · refine lv_iinc (v := nI (i + 1)) (lv' := [(3, .int (nI (i + 1))), (4, .int (1 <<< ((nI i) &&& 31))), (0, .ref (g 4)), (1, .int (nI u)), (2, .int 7)]) hx hb dX3_findRoom_105 hl (k := 1) rfl (m_inc _) (by decide) rfl (fun ls hl => ?_)
          refine lv_goto (tgt := 23) hx hb dX3_findRoom_108 (by decide) ?_
          exact ih23 (i + 1) (by omega) _ _ t ⟨hM, hHO, by rw [show 10 - i = (10 - (i + 1)) + 1 by omega, kL, if_neg c46, if_pos c56] at hkL; exact hkL⟩ hS ls (lv_sub hl [0, 2, 3, 4] rfl)
        · refine lv_aload_n hx hb dX3_findRoom_59 rfl (lv_at hl 2 rfl) ?_
          refine lv_dup hx hb dX3_findRoom_60 rfl ?_
          refine m_get hx hb hts in_X3_findRoom_X3 hown hK hM mS4_4 rfl 2 (by decide) (by decide +kernel) rfl dX3_findRoom_61 ?_
          refine lv_iload hx hb dX3_findRoom_64 (lv_at hl 0 rfl) ?_
          refine lv_ior hx hb dX3_findRoom_66 ?_
          refine m_put hx hb hts in_X3_findRoom_X3 tyX3 tyX3_ok nmX3 hown hK hM hS mS4_4 rfl 2 (by decide) (by decide +kernel) rfl (tyX3_ok 2 (by decide)) rfl rfl (Nat.le_of_ble_eq_true rfl) dX3_findRoom_67 (fun H locs hM hz hS => ?_)
          have hM : mP E A g (mu (mS4 E g M t) 4 (.inr (4, [.ref (g 5), .ref (g 6), .int (t.1 ||| (1 <<< ((nI i) &&& 31)))]))) H := hM
          rw [mS4_p4] at hM
          refine lv_aload_n hx hb dX3_findRoom_70 rfl (lv_at hl 2 rfl) ?_
          refine m_get hx hb hts in_X3_findRoom_X3 hown hK hM mS4_4 rfl 1 (by decide) (by decide +kernel) rfl dX3_findRoom_71 ?_
          refine lv_iload_n hx hb dX3_findRoom_74 rfl (lv_at hl 1 rfl) ?_
          refine m_iald (v := t.2 i) hx hb hK hM mS4_6 (ix_ok (by omega)) (rd_ok (by omega) rfl) dX3_findRoom_75 ?_
          refine lv_istore (lv' := [(5, .int (t.2 i)), (4, .int (1 <<< ((nI i) &&& 31))), (3, .int (nI i)), (0, .ref (g 4)), (1, .int (nI u)), (2, .int 7)]) hx hb dX3_findRoom_76 hl (by decide) rfl (fun ls hl => ?_)
          refine lv_iload hx hb dX3_findRoom_78 (lv_at hl 0 rfl) ?_
          refine lv_iconst (v := (-1)) hx hb dX3_findRoom_80 (by decide) ?_
          refine lv_icmp_eq (tgt := 96) hx hb dX3_findRoom_81 (by decide) (fun c81 => ?_) (fun c81 => ?_)
          · refine lv_aload_n hx hb dX3_findRoom_96 rfl (lv_at hl 3 rfl) ?_
            refine m_get hx hb hts in_X3_findRoom_X3 hown hK hM mS4_4 rfl 1 (by decide) (by decide +kernel) rfl dX3_findRoom_97 ?_
            refine lv_iload_n hx hb dX3_findRoom_100 rfl (lv_at hl 2 rfl) ?_
            refine lv_iload_n hx hb dX3_findRoom_101 rfl (lv_at hl 4 rfl) ?_
            refine m_iast hx hb hK hM hS mS4_6 (ix_ok (by omega)) dX3_findRoom_102 (fun H locs hM hz hS => ?_)
            rw [mS4_p6] at hM
            refine lv_iconst (v := 1) hx hb dX3_findRoom_103 (by decide) ?_
            exact w_z hx hb hr hlocks dX3_findRoom_104 hS (Nat.le_of_ble_eq_true rfl) (Nat.le_of_ble_eq_true rfl) (by rw [← hkL, show 10 - i = (10 - (i + 1)) + 1 by omega, kL, if_neg c46, if_neg (fun q => q c56), if_pos c81]; rfl) (by rw [← hkL, show 10 - i = (10 - (i + 1)) + 1 by omega, kL, if_neg c46, if_neg (fun q => q c56), if_pos c81]; rw [nI_clamp (show i < 2 ^ 31 by omega)] at hM; exact hM)
          · obtain ⟨v9, hv8, hv9⟩ := (hHO i (by omega)).resolve_left c81
            rw [hv9] at hl
            refine lv_aload_n hx hb dX3_findRoom_84 rfl (lv_at hl 3 rfl) ?_
            refine lv_iload hx hb dX3_findRoom_85 (lv_at hl 0 rfl) ?_
            refine lv_iload_n hx hb dX3_findRoom_87 rfl (lv_at hl 5 rfl) ?_
            refine lv_iconst (v := 1) hx hb dX3_findRoom_88 (by decide) ?_
            refine lv_iadd hx hb dX3_findRoom_89 ?_
            rw [show ((7 : Int32) + 1) = 8 from by decide]
            refine m_wS 3 [.ref (g 4), .int (nI v9), .int 8] [] hx hb hml hown hts hK (c_find3 l E A g (mS4 E g M (t.1 ||| (1 <<< ((nI i) &&& 31)), t.2)) al (t.1 ||| (1 <<< ((nI i) &&& 31))) t.2 mS4_4 (mS4_5.trans h5) mS4_6 hHO v9 hv8) gX3_findRoom_X3_findRoom rfl rfl rfl (by decide +kernel) rfl ⟨Nat.le_of_ble_eq_true rfl, Nat.le_of_ble_eq_true rfl⟩ hM hl.1 (Nat.le_of_ble_eq_true rfl) ⟨Nat.le_of_ble_eq_true rfl, Nat.le_of_ble_eq_true rfl⟩ rfl dX3_findRoom_90 hS (fun _ _ h => h) (fun _ h => h) (fun H locs hQ hz hk hS => ?_)
            refine W.eq (g2 := F0 m 93 ls [.int (bI (kF al 3 v9 (t.1 ||| (1 <<< ((nI i) &&& 31)), t.2)).1)]) rfl ?_
            rw [mS4_2] at hQ
            obtain ⟨b9, t9, hr9⟩ : ∃ b t', kF al 3 v9 (t.1 ||| (1 <<< ((nI i) &&& 31)), t.2) = (b, t') := ⟨_, _, rfl⟩
            have hHO9 := kF_ok al 3 v9 (t.1 ||| (1 <<< ((nI i) &&& 31)), t.2) hv8 hHO
            rw [hr9] at hQ hHO9 ⊢
            have hM : mP E A g (mS4 E g M t9) H := hQ
            refine W.eq (g2 := F0 m 93 ls [.int (bI b9)]) rfl ?_
            refine lv_if_eq (tgt := 105) hx hb dX3_findRoom_93 (by decide) (fun c93 => ?_) (fun c93 => ?_)
            · have c93 := bI_f c93
              subst c93
              refine lv_iinc (v := nI (i + 1)) (lv' := [(3, .int (nI (i + 1))), (5, .int (nI v9)), (4, .int (1 <<< ((nI i) &&& 31))), (0, .ref (g 4)), (1, .int (nI u)), (2, .int 7)]) hx hb dX3_findRoom_105 hl (k := 2) rfl (m_inc _) (by decide) rfl (fun ls hl => ?_)
              refine lv_goto (tgt := 23) hx hb dX3_findRoom_108 (by decide) ?_
              exact ih23 (i + 1) (by omega) _ _ t9 ⟨hM, hHO9, by rw [show 10 - i = (10 - (i + 1)) + 1 by omega, kL, if_neg c46, if_neg (fun q => q c56), if_neg c81, hv9, nI_clamp (show v9 < 2 ^ 31 by omega), hr9] at hkL; exact hkL⟩ hS ls (lv_sub hl [0, 3, 4, 5] rfl)
            · have c93 := bI_t c93
              subst c93
              refine lv_aload_n hx hb dX3_findRoom_96 rfl (lv_at hl 3 rfl) ?_
              refine m_get hx hb hts in_X3_findRoom_X3 hown hK hM mS4_4 rfl 1 (by decide) (by decide +kernel) rfl dX3_findRoom_97 ?_
              refine lv_iload_n hx hb dX3_findRoom_100 rfl (lv_at hl 2 rfl) ?_
              refine lv_iload_n hx hb dX3_findRoom_101 rfl (lv_at hl 4 rfl) ?_
              refine m_iast hx hb hK hM hS mS4_6 (ix_ok (by omega)) dX3_findRoom_102 (fun H locs hM hz hS => ?_)
              rw [mS4_p6] at hM
              refine lv_iconst (v := 1) hx hb dX3_findRoom_103 (by decide) ?_
              exact w_z hx hb hr hlocks dX3_findRoom_104 hS (Nat.le_of_ble_eq_true rfl) (Nat.le_of_ble_eq_true rfl) (by rw [← hkL, show 10 - i = (10 - (i + 1)) + 1 by omega, kL, if_neg c46, if_neg (fun q => q c56), if_neg c81, hv9, nI_clamp (show v9 < 2 ^ 31 by omega), hr9]; rfl) (by rw [← hkL, show 10 - i = (10 - (i + 1)) + 1 by omega, kL, if_neg c46, if_neg (fun q => q c56), if_neg c81, hv9, nI_clamp (show v9 < 2 ^ 31 by omega), hr9]; rw [nI_clamp (show i < 2 ^ 31 by omega)] at hM; exact hM)
  exact lp23 (10) 0 (by omega) _ _ (sa, ho) ⟨by rw [mS4_id h4 h6]; exact hM, hho, rfl⟩ hS ls (lv_sub hl [0, 1, 2, 3] rfl)
set_option maxHeartbeats 4000000 in
set_option maxRecDepth 100000 in
theorem c_find5 (l : Launch) (E : gE) (A : Nat → Prop) (g : Nat → Nat) (M : gM) (al : Nat → Int32) (sa : Int32) (ho : Nat → Int32) (h4 : M 4 = some (.inr (4, [.ref (g 5), .ref (g 6), .int sa]))) (h5 : M 5 = some (.inl (E.2.1, 12, .inl al))) (h6 : M 6 = some (.inl (E.2.1, 10, .inl ho))) (hho : HO ho) (u : Nat) (hu : u < 12) : Met l yX3_findRoom wsX3_findRoom ({ frames := 5, cells := 0, slots := 0, locals := 125 } : Room) (Pm E [.ref (g 4), .int (nI u), .int 6] (mP E A g M)) (QW (some (.int (bI (kF al 5 u (sa, ho)).1))) (mP E A g (mS4 E g M (kF al 5 u (sa, ho)).2)) A) 0 0 A := by
  refine m_entry (by decide) rfl (Nat.le_of_ble_eq_true rfl) ?_
  intro p e s m args below meth c hx hb hr hml hts hown hlocks hin hM hK ls hl
  have hl : lv_has ls 6 [(0, .ref (g 4)), (1, .int (nI u)), (2, .int 6)] := hl
  have hown : s.vm.findClass RX3 = some m.cls := hown
  have hS : va_S A s.heap s.heap [] := va_S.rf
  skip
  refine lv_iload_n hx hb dX3_findRoom_0 rfl (lv_at hl 1 rfl) ?_
  refine lv_if_lt (tgt := 19) hx hb dX3_findRoom_1 (by decide) (fun c9 => absurd c9 (nI_pos (by omega))) (fun c1 => ?_)
  refine lv_iload_n hx hb dX3_findRoom_4 rfl (lv_at hl 1 rfl) ?_
  refine lv_aload_n hx hb dX3_findRoom_5 rfl (lv_at hl 0 rfl) ?_
  refine m_get hx hb hts in_X3_findRoom_X3 hown hK hM h4 rfl 0 (by decide) (by decide +kernel) rfl dX3_findRoom_6 ?_
  refine m_alen (v := nI 12) hx hb hK hM h5 rfl dX3_findRoom_9 ?_
  refine lv_icmp_ge (tgt := 19) hx hb dX3_findRoom_10 (by decide) (fun c9 => absurd c9 (nI_ge hu (by decide))) (fun c10 => ?_)
  refine lv_iload_n hx hb dX3_findRoom_13 rfl (lv_at hl 2 rfl) ?_
  refine lv_bipush (v := 10) hx hb dX3_findRoom_14 (by decide) ?_
  refine lv_icmp_le (tgt := 21) hx hb dX3_findRoom_16 (by decide) (fun c9 => ?_) (fun c9 => absurd c9 (by decide))
  refine lv_iconst (v := 0) hx hb dX3_findRoom_21 (by decide) ?_
  refine lv_istore_n (lv' := [(3, .int 0), (0, .ref (g 4)), (1, .int (nI u)), (2, .int 6)]) hx hb dX3_findRoom_22 rfl hl (by decide) rfl (fun ls hl => ?_)
  have lp23 : ∀ (n23 i : Nat), n23 + i = 10 → ∀ (H : Heap) (locs : List Loc) (t : gK), (mP E A g (mS4 E g M t) H ∧ HO t.2 ∧ kL (kF al 4) (al u) u (10 - i) i t = kF al 5 u (sa, ho)) → va_S A s.heap H locs → ∀ ls : Array Slot, lv_has ls 6 [(3, .int (nI i)), (0, .ref (g 4)), (1, .int (nI u)), (2, .int 6)] → W p l e ({ frames := 5, cells := 0, slots := 0, locals := 125 } : Room) s m args below meth c H locs 0 0 (MQ below (QW (some (.int (bI (kF al 5 u (sa, ho)).1))) (mP E A g (mS4 E g M (kF al 5 u (sa, ho)).2)) A) args s 0 0 A) (F0 m 23 ls []) := by
    intro n23
    induction n23 with
    | zero =>
      intro i hi23 H locs t hI hS ls hl
      obtain ⟨hM, hHO, hkL⟩ := hI
      obtain rfl : 10 = i := by omega
      refine lv_iload_n hx hb dX3_findRoom_23 rfl (lv_at hl 0 rfl) ?_
      refine lv_aload_n hx hb dX3_findRoom_24 rfl (lv_at hl 1 rfl) ?_
      refine m_get hx hb hts in_X3_findRoom_X3 hown hK hM mS4_4 rfl 1 (by decide) (by decide +kernel) rfl dX3_findRoom_25 ?_
      refine m_alen (v := nI 10) hx hb hK hM mS4_6 rfl dX3_findRoom_28 ?_
      refine lv_icmp_ge (tgt := 111) hx hb dX3_findRoom_29 (by decide) (fun c29 => ?_) (fun c9 => absurd (Int32.le_refl _) c9)
      refine lv_iconst (v := 0) hx hb dX3_findRoom_111 (by decide) ?_
      exact w_z hx hb hr hlocks dX3_findRoom_112 hS (Nat.le_of_ble_eq_true rfl) (Nat.le_of_ble_eq_true rfl) (by rw [← hkL]; rfl) (by rw [← hkL]; exact hM)
    | succ n23 ih23 =>
      intro i hi23 H locs t hI hS ls hl
      obtain ⟨hM, hHO, hkL⟩ := hI
      have hlt23 : i < 10 := by omega
      refine lv_iload_n hx hb dX3_findRoom_23 rfl (lv_at hl 0 rfl) ?_
      refine lv_aload_n hx hb dX3_findRoom_24 rfl (lv_at hl 1 rfl) ?_
      refine m_get hx hb hts in_X3_findRoom_X3 hown hK hM mS4_4 rfl 1 (by decide) (by decide +kernel) rfl dX3_findRoom_25 ?_
      refine m_alen (v := nI 10) hx hb hK hM mS4_6 rfl dX3_findRoom_28 ?_
      refine lv_icmp_ge (tgt := 111) hx hb dX3_findRoom_29 (by decide) (fun c9 => absurd c9 (nI_ge (b := 10) hlt23 (by omega))) (fun c29 => ?_)
      refine lv_iconst (v := 1) hx hb dX3_findRoom_32 (by decide) ?_
      refine lv_iload_n hx hb dX3_findRoom_33 rfl (lv_at hl 0 rfl) ?_
      refine lv_ishl hx hb dX3_findRoom_34 ?_
      refine lv_istore (lv' := [(4, .int (1 <<< ((nI i) &&& 31))), (3, .int (nI i)), (0, .ref (g 4)), (1, .int (nI u)), (2, .int 6)]) hx hb dX3_findRoom_35 hl (by decide) rfl (fun ls hl => ?_)
      refine lv_aload_n hx hb dX3_findRoom_37 rfl (lv_at hl 2 rfl) ?_
      refine m_get hx hb hts in_X3_findRoom_X3 hown hK hM mS4_4 rfl 0 (by decide) (by decide +kernel) rfl dX3_findRoom_38 ?_
      refine lv_iload_n hx hb dX3_findRoom_41 rfl (lv_at hl 3 rfl) ?_
      refine m_iald (v := al u) hx hb hK hM (mS4_5.trans h5) (ix_ok (by omega)) (rd_ok (by omega) rfl) dX3_findRoom_42 ?_
      refine lv_iload hx hb dX3_findRoom_43 (lv_at hl 0 rfl) ?_
      refine lv_iand hx hb dX3_findRoom_45 ?_
      refine lv_if_eq (tgt := 105) hx hb dX3_findRoom_46 (by decide) (fun c46 => ?_) (fun c46 => ?_)
      · refine lv_iinc (v := nI (i + 1)) (lv' := [(3, .int (nI (i + 1))), (4, .int (1 <<< ((nI i) &&& 31))), (0, .ref (g 4)), (1, .int (nI u)), (2, .int 6)]) hx hb dX3_findRoom_105 hl (k := 1) rfl (m_inc _) (by decide) rfl (fun ls hl => ?_)
        refine lv_goto (tgt := 23) hx hb dX3_findRoom_108 (by decide) ?_
        exact ih23 (i + 1) (by omega) _ _ t ⟨hM, hHO, by rw [show 10 - i = (10 - (i + 1)) + 1 by omega, kL, if_pos c46] at hkL; exact hkL⟩ hS ls (lv_sub hl [0, 2, 3, 4] rfl)
      · refine lv_aload_n hx hb dX3_findRoom_49 rfl (lv_at hl 2 rfl) ?_
        refine m_get hx hb hts in_X3_findRoom_X3 hown hK hM mS4_4 rfl 2 (by decide) (by decide +kernel) rfl dX3_findRoom_50 ?_
        refine lv_iload hx hb dX3_findRoom_53 (lv_at hl 0 rfl) ?_
        refine lv_iand hx hb dX3_findRoom_55 ?_
        refine lv_if_ne (tgt := 105) hx hb dX3_findRoom_56 (by decide) (fun c56 => ?_) (fun c56 => ?_)
        · refine lv_iinc (v := nI (i + 1)) (lv' := [(3, .int (nI (i + 1))), (4, .int (1 <<< ((nI i) &&& 31))), (0, .ref (g 4)), (1, .int (nI u)), (2, .int 6)]) hx hb dX3_findRoom_105 hl (k := 1) rfl (m_inc _) (by decide) rfl (fun ls hl => ?_)
          refine lv_goto (tgt := 23) hx hb dX3_findRoom_108 (by decide) ?_
          exact ih23 (i + 1) (by omega) _ _ t ⟨hM, hHO, by rw [show 10 - i = (10 - (i + 1)) + 1 by omega, kL, if_neg c46, if_pos c56] at hkL; exact hkL⟩ hS ls (lv_sub hl [0, 2, 3, 4] rfl)
        · refine lv_aload_n hx hb dX3_findRoom_59 rfl (lv_at hl 2 rfl) ?_
          refine lv_dup hx hb dX3_findRoom_60 rfl ?_
          refine m_get hx hb hts in_X3_findRoom_X3 hown hK hM mS4_4 rfl 2 (by decide) (by decide +kernel) rfl dX3_findRoom_61 ?_
          refine lv_iload hx hb dX3_findRoom_64 (lv_at hl 0 rfl) ?_
          refine lv_ior hx hb dX3_findRoom_66 ?_
          refine m_put hx hb hts in_X3_findRoom_X3 tyX3 tyX3_ok nmX3 hown hK hM hS mS4_4 rfl 2 (by decide) (by decide +kernel) rfl (tyX3_ok 2 (by decide)) rfl rfl (Nat.le_of_ble_eq_true rfl) dX3_findRoom_67 (fun H locs hM hz hS => ?_)
          have hM : mP E A g (mu (mS4 E g M t) 4 (.inr (4, [.ref (g 5), .ref (g 6), .int (t.1 ||| (1 <<< ((nI i) &&& 31)))]))) H := hM
          rw [mS4_p4] at hM
          refine lv_aload_n hx hb dX3_findRoom_70 rfl (lv_at hl 2 rfl) ?_
          refine m_get hx hb hts in_X3_findRoom_X3 hown hK hM mS4_4 rfl 1 (by decide) (by decide +kernel) rfl dX3_findRoom_71 ?_
          refine lv_iload_n hx hb dX3_findRoom_74 rfl (lv_at hl 1 rfl) ?_
          refine m_iald (v := t.2 i) hx hb hK hM mS4_6 (ix_ok (by omega)) (rd_ok (by omega) rfl) dX3_findRoom_75 ?_
          refine lv_istore (lv' := [(5, .int (t.2 i)), (4, .int (1 <<< ((nI i) &&& 31))), (3, .int (nI i)), (0, .ref (g 4)), (1, .int (nI u)), (2, .int 6)]) hx hb dX3_findRoom_76 hl (by decide) rfl (fun ls hl => ?_)
          refine lv_iload hx hb dX3_findRoom_78 (lv_at hl 0 rfl) ?_
          refine lv_iconst (v := (-1)) hx hb dX3_findRoom_80 (by decide) ?_
          refine lv_icmp_eq (tgt := 96) hx hb dX3_findRoom_81 (by decide) (fun c81 => ?_) (fun c81 => ?_)
          · refine lv_aload_n hx hb dX3_findRoom_96 rfl (lv_at hl 3 rfl) ?_
            refine m_get hx hb hts in_X3_findRoom_X3 hown hK hM mS4_4 rfl 1 (by decide) (by decide +kernel) rfl dX3_findRoom_97 ?_
            refine lv_iload_n hx hb dX3_findRoom_100 rfl (lv_at hl 2 rfl) ?_
            refine lv_iload_n hx hb dX3_findRoom_101 rfl (lv_at hl 4 rfl) ?_
            refine m_iast hx hb hK hM hS mS4_6 (ix_ok (by omega)) dX3_findRoom_102 (fun H locs hM hz hS => ?_)
            rw [mS4_p6] at hM
            refine lv_iconst (v := 1) hx hb dX3_findRoom_103 (by decide) ?_
            exact w_z hx hb hr hlocks dX3_findRoom_104 hS (Nat.le_of_ble_eq_true rfl) (Nat.le_of_ble_eq_true rfl) (by rw [← hkL, show 10 - i = (10 - (i + 1)) + 1 by omega, kL, if_neg c46, if_neg (fun q => q c56), if_pos c81]; rfl) (by rw [← hkL, show 10 - i = (10 - (i + 1)) + 1 by omega, kL, if_neg c46, if_neg (fun q => q c56), if_pos c81]; rw [nI_clamp (show i < 2 ^ 31 by omega)] at hM; exact hM)
          · obtain ⟨v9, hv8, hv9⟩ := (hHO i (by omega)).resolve_left c81
            rw [hv9] at hl
            refine lv_aload_n hx hb dX3_findRoom_84 rfl (lv_at hl 3 rfl) ?_
            refine lv_iload hx hb dX3_findRoom_85 (lv_at hl 0 rfl) ?_
            refine lv_iload_n hx hb dX3_findRoom_87 rfl (lv_at hl 5 rfl) ?_
            refine lv_iconst (v := 1) hx hb dX3_findRoom_88 (by decide) ?_
            refine lv_iadd hx hb dX3_findRoom_89 ?_
            rw [show ((6 : Int32) + 1) = 7 from by decide]
            refine m_wS 3 [.ref (g 4), .int (nI v9), .int 7] [] hx hb hml hown hts hK (c_find4 l E A g (mS4 E g M (t.1 ||| (1 <<< ((nI i) &&& 31)), t.2)) al (t.1 ||| (1 <<< ((nI i) &&& 31))) t.2 mS4_4 (mS4_5.trans h5) mS4_6 hHO v9 hv8) gX3_findRoom_X3_findRoom rfl rfl rfl (by decide +kernel) rfl ⟨Nat.le_of_ble_eq_true rfl, Nat.le_of_ble_eq_true rfl⟩ hM hl.1 (Nat.le_of_ble_eq_true rfl) ⟨Nat.le_of_ble_eq_true rfl, Nat.le_of_ble_eq_true rfl⟩ rfl dX3_findRoom_90 hS (fun _ _ h => h) (fun _ h => h) (fun H locs hQ hz hk hS => ?_)
            refine W.eq (g2 := F0 m 93 ls [.int (bI (kF al 4 v9 (t.1 ||| (1 <<< ((nI i) &&& 31)), t.2)).1)]) rfl ?_
            rw [mS4_2] at hQ
            obtain ⟨b9, t9, hr9⟩ : ∃ b t', kF al 4 v9 (t.1 ||| (1 <<< ((nI i) &&& 31)), t.2) = (b, t') := ⟨_, _, rfl⟩
            have hHO9 := kF_ok al 4 v9 (t.1 ||| (1 <<< ((nI i) &&& 31)), t.2) hv8 hHO
            rw [hr9] at hQ hHO9 ⊢
            have hM : mP E A g (mS4 E g M t9) H := hQ
            refine W.eq (g2 := F0 m 93 ls [.int (bI b9)]) rfl ?_
            refine lv_if_eq (tgt := 105) hx hb dX3_findRoom_93 (by decide) (fun c93 => ?_) (fun c93 => ?_)
            · have c93 := bI_f c93
              subst c93
              refine lv_iinc (v := nI (i + 1)) (lv' := [(3, .int (nI (i + 1))), (5, .int (nI v9)), (4, .int (1 <<< ((nI i) &&& 31))), (0, .ref (g 4)), (1, .int (nI u)), (2, .int 6)]) hx hb dX3_findRoom_105 hl (k := 2) rfl (m_inc _) (by decide) rfl (fun ls hl => ?_)
              refine lv_goto (tgt := 23) hx hb dX3_findRoom_108 (by decide) ?_
              exact ih23 (i + 1) (by omega) _ _ t9 ⟨hM, hHO9, by rw [show 10 - i = (10 - (i + 1)) + 1 by omega, kL, if_neg c46, if_neg (fun q => q c56), if_neg c81, hv9, nI_clamp (show v9 < 2 ^ 31 by omega), hr9] at hkL; exact hkL⟩ hS ls (lv_sub hl [0, 3, 4, 5] rfl)
            · have c93 := bI_t c93
              subst c93
              refine lv_aload_n hx hb dX3_findRoom_96 rfl (lv_at hl 3 rfl) ?_
              refine m_get hx hb hts in_X3_findRoom_X3 hown hK hM mS4_4 rfl 1 (by decide) (by decide +kernel) rfl dX3_findRoom_97 ?_
              refine lv_iload_n hx hb dX3_findRoom_100 rfl (lv_at hl 2 rfl) ?_
              refine lv_iload_n hx hb dX3_findRoom_101 rfl (lv_at hl 4 rfl) ?_
              refine m_iast hx hb hK hM hS mS4_6 (ix_ok (by omega)) dX3_findRoom_102 (fun H locs hM hz hS => ?_)
              rw [mS4_p6] at hM
              refine lv_iconst (v := 1) hx hb dX3_findRoom_103 (by decide) ?_
              exact w_z hx hb hr hlocks dX3_findRoom_104 hS (Nat.le_of_ble_eq_true rfl) (Nat.le_of_ble_eq_true rfl) (by rw [← hkL, show 10 - i = (10 - (i + 1)) + 1 by omega, kL, if_neg c46, if_neg (fun q => q c56), if_neg c81, hv9, nI_clamp (show v9 < 2 ^ 31 by omega), hr9]; rfl) (by rw [← hkL, show 10 - i = (10 - (i + 1)) + 1 by omega, kL, if_neg c46, if_neg (fun q => q c56), if_neg c81, hv9, nI_clamp (show v9 < 2 ^ 31 by omega), hr9]; rw [nI_clamp (show i < 2 ^ 31 by omega)] at hM; exact hM)
  exact lp23 (10) 0 (by omega) _ _ (sa, ho) ⟨by rw [mS4_id h4 h6]; exact hM, hho, rfl⟩ hS ls (lv_sub hl [0, 1, 2, 3] rfl)
set_option maxHeartbeats 4000000 in
set_option maxRecDepth 100000 in
theorem c_find6 (l : Launch) (E : gE) (A : Nat → Prop) (g : Nat → Nat) (M : gM) (al : Nat → Int32) (sa : Int32) (ho : Nat → Int32) (h4 : M 4 = some (.inr (4, [.ref (g 5), .ref (g 6), .int sa]))) (h5 : M 5 = some (.inl (E.2.1, 12, .inl al))) (h6 : M 6 = some (.inl (E.2.1, 10, .inl ho))) (hho : HO ho) (u : Nat) (hu : u < 12) : Met l yX3_findRoom wsX3_findRoom ({ frames := 6, cells := 0, slots := 0, locals := 150 } : Room) (Pm E [.ref (g 4), .int (nI u), .int 5] (mP E A g M)) (QW (some (.int (bI (kF al 6 u (sa, ho)).1))) (mP E A g (mS4 E g M (kF al 6 u (sa, ho)).2)) A) 0 0 A := by
  refine m_entry (by decide) rfl (Nat.le_of_ble_eq_true rfl) ?_
  intro p e s m args below meth c hx hb hr hml hts hown hlocks hin hM hK ls hl
  have hl : lv_has ls 6 [(0, .ref (g 4)), (1, .int (nI u)), (2, .int 5)] := hl
  have hown : s.vm.findClass RX3 = some m.cls := hown
  have hS : va_S A s.heap s.heap [] := va_S.rf
  skip
  refine lv_iload_n hx hb dX3_findRoom_0 rfl (lv_at hl 1 rfl) ?_
  refine lv_if_lt (tgt := 19) hx hb dX3_findRoom_1 (by decide) (fun c9 => absurd c9 (nI_pos (by omega))) (fun c1 => ?_)
  refine lv_iload_n hx hb dX3_findRoom_4 rfl (lv_at hl 1 rfl) ?_
  refine lv_aload_n hx hb dX3_findRoom_5 rfl (lv_at hl 0 rfl) ?_
  refine m_get hx hb hts in_X3_findRoom_X3 hown hK hM h4 rfl 0 (by decide) (by decide +kernel) rfl dX3_findRoom_6 ?_
  refine m_alen (v := nI 12) hx hb hK hM h5 rfl dX3_findRoom_9 ?_
  refine lv_icmp_ge (tgt := 19) hx hb dX3_findRoom_10 (by decide) (fun c9 => absurd c9 (nI_ge hu (by decide))) (fun c10 => ?_)
  refine lv_iload_n hx hb dX3_findRoom_13 rfl (lv_at hl 2 rfl) ?_
  refine lv_bipush (v := 10) hx hb dX3_findRoom_14 (by decide) ?_
  refine lv_icmp_le (tgt := 21) hx hb dX3_findRoom_16 (by decide) (fun c9 => ?_) (fun c9 => absurd c9 (by decide))
  refine lv_iconst (v := 0) hx hb dX3_findRoom_21 (by decide) ?_
  refine lv_istore_n (lv' := [(3, .int 0), (0, .ref (g 4)), (1, .int (nI u)), (2, .int 5)]) hx hb dX3_findRoom_22 rfl hl (by decide) rfl (fun ls hl => ?_)
  have lp23 : ∀ (n23 i : Nat), n23 + i = 10 → ∀ (H : Heap) (locs : List Loc) (t : gK), (mP E A g (mS4 E g M t) H ∧ HO t.2 ∧ kL (kF al 5) (al u) u (10 - i) i t = kF al 6 u (sa, ho)) → va_S A s.heap H locs → ∀ ls : Array Slot, lv_has ls 6 [(3, .int (nI i)), (0, .ref (g 4)), (1, .int (nI u)), (2, .int 5)] → W p l e ({ frames := 6, cells := 0, slots := 0, locals := 150 } : Room) s m args below meth c H locs 0 0 (MQ below (QW (some (.int (bI (kF al 6 u (sa, ho)).1))) (mP E A g (mS4 E g M (kF al 6 u (sa, ho)).2)) A) args s 0 0 A) (F0 m 23 ls []) := by
    intro n23
    induction n23 with
    | zero =>
      intro i hi23 H locs t hI hS ls hl
      obtain ⟨hM, hHO, hkL⟩ := hI
      obtain rfl : 10 = i := by omega
      refine lv_iload_n hx hb dX3_findRoom_23 rfl (lv_at hl 0 rfl) ?_
      refine lv_aload_n hx hb dX3_findRoom_24 rfl (lv_at hl 1 rfl) ?_
      refine m_get hx hb hts in_X3_findRoom_X3 hown hK hM mS4_4 rfl 1 (by decide) (by decide +kernel) rfl dX3_findRoom_25 ?_
      refine m_alen (v := nI 10) hx hb hK hM mS4_6 rfl dX3_findRoom_28 ?_
      refine lv_icmp_ge (tgt := 111) hx hb dX3_findRoom_29 (by decide) (fun c29 => ?_) (fun c9 => absurd (Int32.le_refl _) c9)
      refine lv_iconst (v := 0) hx hb dX3_findRoom_111 (by decide) ?_
      exact w_z hx hb hr hlocks dX3_findRoom_112 hS (Nat.le_of_ble_eq_true rfl) (Nat.le_of_ble_eq_true rfl) (by rw [← hkL]; rfl) (by rw [← hkL]; exact hM)
    | succ n23 ih23 =>
      intro i hi23 H locs t hI hS ls hl
      obtain ⟨hM, hHO, hkL⟩ := hI
      have hlt23 : i < 10 := by omega
      refine lv_iload_n hx hb dX3_findRoom_23 rfl (lv_at hl 0 rfl) ?_
      refine lv_aload_n hx hb dX3_findRoom_24 rfl (lv_at hl 1 rfl) ?_
      refine m_get hx hb hts in_X3_findRoom_X3 hown hK hM mS4_4 rfl 1 (by decide) (by decide +kernel) rfl dX3_findRoom_25 ?_
      refine m_alen (v := nI 10) hx hb hK hM mS4_6 rfl dX3_findRoom_28 ?_
      refine lv_icmp_ge (tgt := 111) hx hb dX3_findRoom_29 (by decide) (fun c9 => absurd c9 (nI_ge (b := 10) hlt23 (by omega))) (fun c29 => ?_)
      refine lv_iconst (v := 1) hx hb dX3_findRoom_32 (by decide) ?_
      refine lv_iload_n hx hb dX3_findRoom_33 rfl (lv_at hl 0 rfl) ?_
      refine lv_ishl hx hb dX3_findRoom_34 ?_
      refine lv_istore (lv' := [(4, .int (1 <<< ((nI i) &&& 31))), (3, .int (nI i)), (0, .ref (g 4)), (1, .int (nI u)), (2, .int 5)]) hx hb dX3_findRoom_35 hl (by decide) rfl (fun ls hl => ?_)
      refine lv_aload_n hx hb dX3_findRoom_37 rfl (lv_at hl 2 rfl) ?_
      refine m_get hx hb hts in_X3_findRoom_X3 hown hK hM mS4_4 rfl 0 (by decide) (by decide +kernel) rfl dX3_findRoom_38 ?_
      refine lv_iload_n hx hb dX3_findRoom_41 rfl (lv_at hl 3 rfl) ?_
      refine m_iald (v := al u) hx hb hK hM (mS4_5.trans h5) (ix_ok (by omega)) (rd_ok (by omega) rfl) dX3_findRoom_42 ?_
      refine lv_iload hx hb dX3_findRoom_43 (lv_at hl 0 rfl) ?_
      refine lv_iand hx hb dX3_findRoom_45 ?_
      refine lv_if_eq (tgt := 105) hx hb dX3_findRoom_46 (by decide) (fun c46 => ?_) (fun c46 => ?_)
      · refine lv_iinc (v := nI (i + 1)) (lv' := [(3, .int (nI (i + 1))), (4, .int (1 <<< ((nI i) &&& 31))), (0, .ref (g 4)), (1, .int (nI u)), (2, .int 5)]) hx hb dX3_findRoom_105 hl (k := 1) rfl (m_inc _) (by decide) rfl (fun ls hl => ?_)
        refine lv_goto (tgt := 23) hx hb dX3_findRoom_108 (by decide) ?_
        exact ih23 (i + 1) (by omega) _ _ t ⟨hM, hHO, by rw [show 10 - i = (10 - (i + 1)) + 1 by omega, kL, if_pos c46] at hkL; exact hkL⟩ hS ls (lv_sub hl [0, 2, 3, 4] rfl)
      · refine lv_aload_n hx hb dX3_findRoom_49 rfl (lv_at hl 2 rfl) ?_
        refine m_get hx hb hts in_X3_findRoom_X3 hown hK hM mS4_4 rfl 2 (by decide) (by decide +kernel) rfl dX3_findRoom_50 ?_
        refine lv_iload hx hb dX3_findRoom_53 (lv_at hl 0 rfl) ?_
        refine lv_iand hx hb dX3_findRoom_55 ?_
        refine lv_if_ne (tgt := 105) hx hb dX3_findRoom_56 (by decide) (fun c56 => ?_) (fun c56 => ?_)
        · refine lv_iinc (v := nI (i + 1)) (lv' := [(3, .int (nI (i + 1))), (4, .int (1 <<< ((nI i) &&& 31))), (0, .ref (g 4)), (1, .int (nI u)), (2, .int 5)]) hx hb dX3_findRoom_105 hl (k := 1) rfl (m_inc _) (by decide) rfl (fun ls hl => ?_)
          refine lv_goto (tgt := 23) hx hb dX3_findRoom_108 (by decide) ?_
          exact ih23 (i + 1) (by omega) _ _ t ⟨hM, hHO, by rw [show 10 - i = (10 - (i + 1)) + 1 by omega, kL, if_neg c46, if_pos c56] at hkL; exact hkL⟩ hS ls (lv_sub hl [0, 2, 3, 4] rfl)
        · refine lv_aload_n hx hb dX3_findRoom_59 rfl (lv_at hl 2 rfl) ?_
          refine lv_dup hx hb dX3_findRoom_60 rfl ?_
          refine m_get hx hb hts in_X3_findRoom_X3 hown hK hM mS4_4 rfl 2 (by decide) (by decide +kernel) rfl dX3_findRoom_61 ?_
          refine lv_iload hx hb dX3_findRoom_64 (lv_at hl 0 rfl) ?_
          refine lv_ior hx hb dX3_findRoom_66 ?_
          refine m_put hx hb hts in_X3_findRoom_X3 tyX3 tyX3_ok nmX3 hown hK hM hS mS4_4 rfl 2 (by decide) (by decide +kernel) rfl (tyX3_ok 2 (by decide)) rfl rfl (Nat.le_of_ble_eq_true rfl) dX3_findRoom_67 (fun H locs hM hz hS => ?_)
          have hM : mP E A g (mu (mS4 E g M t) 4 (.inr (4, [.ref (g 5), .ref (g 6), .int (t.1 ||| (1 <<< ((nI i) &&& 31)))]))) H := hM
          rw [mS4_p4] at hM
          refine lv_aload_n hx hb dX3_findRoom_70 rfl (lv_at hl 2 rfl) ?_
          refine m_get hx hb hts in_X3_findRoom_X3 hown hK hM mS4_4 rfl 1 (by decide) (by decide +kernel) rfl dX3_findRoom_71 ?_
          refine lv_iload_n hx hb dX3_findRoom_74 rfl (lv_at hl 1 rfl) ?_
          refine m_iald (v := t.2 i) hx hb hK hM mS4_6 (ix_ok (by omega)) (rd_ok (by omega) rfl) dX3_findRoom_75 ?_
          refine lv_istore (lv' := [(5, .int (t.2 i)), (4, .int (1 <<< ((nI i) &&& 31))), (3, .int (nI i)), (0, .ref (g 4)), (1, .int (nI u)), (2, .int 5)]) hx hb dX3_findRoom_76 hl (by decide) rfl (fun ls hl => ?_)
          refine lv_iload hx hb dX3_findRoom_78 (lv_at hl 0 rfl) ?_
          refine lv_iconst (v := (-1)) hx hb dX3_findRoom_80 (by decide) ?_
          refine lv_icmp_eq (tgt := 96) hx hb dX3_findRoom_81 (by decide) (fun c81 => ?_) (fun c81 => ?_)
          · refine lv_aload_n hx hb dX3_findRoom_96 rfl (lv_at hl 3 rfl) ?_
            refine m_get hx hb hts in_X3_findRoom_X3 hown hK hM mS4_4 rfl 1 (by decide) (by decide +kernel) rfl dX3_findRoom_97 ?_
            refine lv_iload_n hx hb dX3_findRoom_100 rfl (lv_at hl 2 rfl) ?_
            refine lv_iload_n hx hb dX3_findRoom_101 rfl (lv_at hl 4 rfl) ?_
            refine m_iast hx hb hK hM hS mS4_6 (ix_ok (by omega)) dX3_findRoom_102 (fun H locs hM hz hS => ?_)
            rw [mS4_p6] at hM
            refine lv_iconst (v := 1) hx hb dX3_findRoom_103 (by decide) ?_
            exact w_z hx hb hr hlocks dX3_findRoom_104 hS (Nat.le_of_ble_eq_true rfl) (Nat.le_of_ble_eq_true rfl) (by rw [← hkL, show 10 - i = (10 - (i + 1)) + 1 by omega, kL, if_neg c46, if_neg (fun q => q c56), if_pos c81]; rfl) (by rw [← hkL, show 10 - i = (10 - (i + 1)) + 1 by omega, kL, if_neg c46, if_neg (fun q => q c56), if_pos c81]; rw [nI_clamp (show i < 2 ^ 31 by omega)] at hM; exact hM)
          · obtain ⟨v9, hv8, hv9⟩ := (hHO i (by omega)).resolve_left c81
            rw [hv9] at hl
            refine lv_aload_n hx hb dX3_findRoom_84 rfl (lv_at hl 3 rfl) ?_
            refine lv_iload hx hb dX3_findRoom_85 (lv_at hl 0 rfl) ?_
            refine lv_iload_n hx hb dX3_findRoom_87 rfl (lv_at hl 5 rfl) ?_
            refine lv_iconst (v := 1) hx hb dX3_findRoom_88 (by decide) ?_
            refine lv_iadd hx hb dX3_findRoom_89 ?_
            rw [show ((5 : Int32) + 1) = 6 from by decide]
            refine m_wS 3 [.ref (g 4), .int (nI v9), .int 6] [] hx hb hml hown hts hK (c_find5 l E A g (mS4 E g M (t.1 ||| (1 <<< ((nI i) &&& 31)), t.2)) al (t.1 ||| (1 <<< ((nI i) &&& 31))) t.2 mS4_4 (mS4_5.trans h5) mS4_6 hHO v9 hv8) gX3_findRoom_X3_findRoom rfl rfl rfl (by decide +kernel) rfl ⟨Nat.le_of_ble_eq_true rfl, Nat.le_of_ble_eq_true rfl⟩ hM hl.1 (Nat.le_of_ble_eq_true rfl) ⟨Nat.le_of_ble_eq_true rfl, Nat.le_of_ble_eq_true rfl⟩ rfl dX3_findRoom_90 hS (fun _ _ h => h) (fun _ h => h) (fun H locs hQ hz hk hS => ?_)
            refine W.eq (g2 := F0 m 93 ls [.int (bI (kF al 5 v9 (t.1 ||| (1 <<< ((nI i) &&& 31)), t.2)).1)]) rfl ?_
            rw [mS4_2] at hQ
            obtain ⟨b9, t9, hr9⟩ : ∃ b t', kF al 5 v9 (t.1 ||| (1 <<< ((nI i) &&& 31)), t.2) = (b, t') := ⟨_, _, rfl⟩
            have hHO9 := kF_ok al 5 v9 (t.1 ||| (1 <<< ((nI i) &&& 31)), t.2) hv8 hHO
            rw [hr9] at hQ hHO9 ⊢
            have hM : mP E A g (mS4 E g M t9) H := hQ
            refine W.eq (g2 := F0 m 93 ls [.int (bI b9)]) rfl ?_
            refine lv_if_eq (tgt := 105) hx hb dX3_findRoom_93 (by decide) (fun c93 => ?_) (fun c93 => ?_)
            · have c93 := bI_f c93
              subst c93
              refine lv_iinc (v := nI (i + 1)) (lv' := [(3, .int (nI (i + 1))), (5, .int (nI v9)), (4, .int (1 <<< ((nI i) &&& 31))), (0, .ref (g 4)), (1, .int (nI u)), (2, .int 5)]) hx hb dX3_findRoom_105 hl (k := 2) rfl (m_inc _) (by decide) rfl (fun ls hl => ?_)
              refine lv_goto (tgt := 23) hx hb dX3_findRoom_108 (by decide) ?_
              exact ih23 (i + 1) (by omega) _ _ t9 ⟨hM, hHO9, by rw [show 10 - i = (10 - (i + 1)) + 1 by omega, kL, if_neg c46, if_neg (fun q => q c56), if_neg c81, hv9, nI_clamp (show v9 < 2 ^ 31 by omega), hr9] at hkL; exact hkL⟩ hS ls (lv_sub hl [0, 3, 4, 5] rfl)
            · have c93 := bI_t c93
              subst c93
              refine lv_aload_n hx hb dX3_findRoom_96 rfl (lv_at hl 3 rfl) ?_
              refine m_get hx hb hts in_X3_findRoom_X3 hown hK hM mS4_4 rfl 1 (by decide) (by decide +kernel) rfl dX3_findRoom_97 ?_
              refine lv_iload_n hx hb dX3_findRoom_100 rfl (lv_at hl 2 rfl) ?_
              refine lv_iload_n hx hb dX3_findRoom_101 rfl (lv_at hl 4 rfl) ?_
              refine m_iast hx hb hK hM hS mS4_6 (ix_ok (by omega)) dX3_findRoom_102 (fun H locs hM hz hS => ?_)
              rw [mS4_p6] at hM
              refine lv_iconst (v := 1) hx hb dX3_findRoom_103 (by decide) ?_
              exact w_z hx hb hr hlocks dX3_findRoom_104 hS (Nat.le_of_ble_eq_true rfl) (Nat.le_of_ble_eq_true rfl) (by rw [← hkL, show 10 - i = (10 - (i + 1)) + 1 by omega, kL, if_neg c46, if_neg (fun q => q c56), if_neg c81, hv9, nI_clamp (show v9 < 2 ^ 31 by omega), hr9]; rfl) (by rw [← hkL, show 10 - i = (10 - (i + 1)) + 1 by omega, kL, if_neg c46, if_neg (fun q => q c56), if_neg c81, hv9, nI_clamp (show v9 < 2 ^ 31 by omega), hr9]; rw [nI_clamp (show i < 2 ^ 31 by omega)] at hM; exact hM)
  exact lp23 (10) 0 (by omega) _ _ (sa, ho) ⟨by rw [mS4_id h4 h6]; exact hM, hho, rfl⟩ hS ls (lv_sub hl [0, 1, 2, 3] rfl)
set_option maxHeartbeats 4000000 in
set_option maxRecDepth 100000 in
theorem c_find7 (l : Launch) (E : gE) (A : Nat → Prop) (g : Nat → Nat) (M : gM) (al : Nat → Int32) (sa : Int32) (ho : Nat → Int32) (h4 : M 4 = some (.inr (4, [.ref (g 5), .ref (g 6), .int sa]))) (h5 : M 5 = some (.inl (E.2.1, 12, .inl al))) (h6 : M 6 = some (.inl (E.2.1, 10, .inl ho))) (hho : HO ho) (u : Nat) (hu : u < 12) : Met l yX3_findRoom wsX3_findRoom ({ frames := 7, cells := 0, slots := 0, locals := 175 } : Room) (Pm E [.ref (g 4), .int (nI u), .int 4] (mP E A g M)) (QW (some (.int (bI (kF al 7 u (sa, ho)).1))) (mP E A g (mS4 E g M (kF al 7 u (sa, ho)).2)) A) 0 0 A := by
  refine m_entry (by decide) rfl (Nat.le_of_ble_eq_true rfl) ?_
  intro p e s m args below meth c hx hb hr hml hts hown hlocks hin hM hK ls hl
  have hl : lv_has ls 6 [(0, .ref (g 4)), (1, .int (nI u)), (2, .int 4)] := hl
  have hown : s.vm.findClass RX3 = some m.cls := hown
  have hS : va_S A s.heap s.heap [] := va_S.rf
  skip
  refine lv_iload_n hx hb dX3_findRoom_0 rfl (lv_at hl 1 rfl) ?_
  refine lv_if_lt (tgt := 19) hx hb dX3_findRoom_1 (by decide) (fun c9 => absurd c9 (nI_pos (by omega))) (fun c1 => ?_)
  refine lv_iload_n hx hb dX3_findRoom_4 rfl (lv_at hl 1 rfl) ?_
  refine lv_aload_n hx hb dX3_findRoom_5 rfl (lv_at hl 0 rfl) ?_
  refine m_get hx hb hts in_X3_findRoom_X3 hown hK hM h4 rfl 0 (by decide) (by decide +kernel) rfl dX3_findRoom_6 ?_
  refine m_alen (v := nI 12) hx hb hK hM h5 rfl dX3_findRoom_9 ?_
  refine lv_icmp_ge (tgt := 19) hx hb dX3_findRoom_10 (by decide) (fun c9 => absurd c9 (nI_ge hu (by decide))) (fun c10 => ?_)
  refine lv_iload_n hx hb dX3_findRoom_13 rfl (lv_at hl 2 rfl) ?_
  refine lv_bipush (v := 10) hx hb dX3_findRoom_14 (by decide) ?_
  refine lv_icmp_le (tgt := 21) hx hb dX3_findRoom_16 (by decide) (fun c9 => ?_) (fun c9 => absurd c9 (by decide))
  refine lv_iconst (v := 0) hx hb dX3_findRoom_21 (by decide) ?_
  refine lv_istore_n (lv' := [(3, .int 0), (0, .ref (g 4)), (1, .int (nI u)), (2, .int 4)]) hx hb dX3_findRoom_22 rfl hl (by decide) rfl (fun ls hl => ?_)
  have lp23 : ∀ (n23 i : Nat), n23 + i = 10 → ∀ (H : Heap) (locs : List Loc) (t : gK), (mP E A g (mS4 E g M t) H ∧ HO t.2 ∧ kL (kF al 6) (al u) u (10 - i) i t = kF al 7 u (sa, ho)) → va_S A s.heap H locs → ∀ ls : Array Slot, lv_has ls 6 [(3, .int (nI i)), (0, .ref (g 4)), (1, .int (nI u)), (2, .int 4)] → W p l e ({ frames := 7, cells := 0, slots := 0, locals := 175 } : Room) s m args below meth c H locs 0 0 (MQ below (QW (some (.int (bI (kF al 7 u (sa, ho)).1))) (mP E A g (mS4 E g M (kF al 7 u (sa, ho)).2)) A) args s 0 0 A) (F0 m 23 ls []) := by
    intro n23
    induction n23 with
    | zero =>
      intro i hi23 H locs t hI hS ls hl
      obtain ⟨hM, hHO, hkL⟩ := hI
      obtain rfl : 10 = i := by omega
      refine lv_iload_n hx hb dX3_findRoom_23 rfl (lv_at hl 0 rfl) ?_
      refine lv_aload_n hx hb dX3_findRoom_24 rfl (lv_at hl 1 rfl) ?_
      refine m_get hx hb hts in_X3_findRoom_X3 hown hK hM mS4_4 rfl 1 (by decide) (by decide +kernel) rfl dX3_findRoom_25 ?_
      refine m_alen (v := nI 10) hx hb hK hM mS4_6 rfl dX3_findRoom_28 ?_
      refine lv_icmp_ge (tgt := 111) hx hb dX3_findRoom_29 (by decide) (fun c29 => ?_) (fun c9 => absurd (Int32.le_refl _) c9)
      refine lv_iconst (v := 0) hx hb dX3_findRoom_111 (by decide) ?_
      exact w_z hx hb hr hlocks dX3_findRoom_112 hS (Nat.le_of_ble_eq_true rfl) (Nat.le_of_ble_eq_true rfl) (by rw [← hkL]; rfl) (by rw [← hkL]; exact hM)
    | succ n23 ih23 =>
      intro i hi23 H locs t hI hS ls hl
      obtain ⟨hM, hHO, hkL⟩ := hI
      have hlt23 : i < 10 := by omega
      refine lv_iload_n hx hb dX3_findRoom_23 rfl (lv_at hl 0 rfl) ?_
      refine lv_aload_n hx hb dX3_findRoom_24 rfl (lv_at hl 1 rfl) ?_
      refine m_get hx hb hts in_X3_findRoom_X3 hown hK hM mS4_4 rfl 1 (by decide) (by decide +kernel) rfl dX3_findRoom_25 ?_
      refine m_alen (v := nI 10) hx hb hK hM mS4_6 rfl dX3_findRoom_28 ?_
      refine lv_icmp_ge (tgt := 111) hx hb dX3_findRoom_29 (by decide) (fun c9 => absurd c9 (nI_ge (b := 10) hlt23 (by omega))) (fun c29 => ?_)
      refine lv_iconst (v := 1) hx hb dX3_findRoom_32 (by decide) ?_
      refine lv_iload_n hx hb dX3_findRoom_33 rfl (lv_at hl 0 rfl) ?_
      refine lv_ishl hx hb dX3_findRoom_34 ?_
      refine lv_istore (lv' := [(4, .int (1 <<< ((nI i) &&& 31))), (3, .int (nI i)), (0, .ref (g 4)), (1, .int (nI u)), (2, .int 4)]) hx hb dX3_findRoom_35 hl (by decide) rfl (fun ls hl => ?_)
      refine lv_aload_n hx hb dX3_findRoom_37 rfl (lv_at hl 2 rfl) ?_
      refine m_get hx hb hts in_X3_findRoom_X3 hown hK hM mS4_4 rfl 0 (by decide) (by decide +kernel) rfl dX3_findRoom_38 ?_
      refine lv_iload_n hx hb dX3_findRoom_41 rfl (lv_at hl 3 rfl) ?_
      refine m_iald (v := al u) hx hb hK hM (mS4_5.trans h5) (ix_ok (by omega)) (rd_ok (by omega) rfl) dX3_findRoom_42 ?_
      refine lv_iload hx hb dX3_findRoom_43 (lv_at hl 0 rfl) ?_
      refine lv_iand hx hb dX3_findRoom_45 ?_
      refine lv_if_eq (tgt := 105) hx hb dX3_findRoom_46 (by decide) (fun c46 => ?_) (fun c46 => ?_)
      · refine lv_iinc (v := nI (i + 1)) (lv' := [(3, .int (nI (i + 1))), (4, .int (1 <<< ((nI i) &&& 31))), (0, .ref (g 4)), (1, .int (nI u)), (2, .int 4)]) hx hb dX3_findRoom_105 hl (k := 1) rfl (m_inc _) (by decide) rfl (fun ls hl => ?_)
        refine lv_goto (tgt := 23) hx hb dX3_findRoom_108 (by decide) ?_
        exact ih23 (i + 1) (by omega) _ _ t ⟨hM, hHO, by rw [show 10 - i = (10 - (i + 1)) + 1 by omega, kL, if_pos c46] at hkL; exact hkL⟩ hS ls (lv_sub hl [0, 2, 3, 4] rfl)
      · refine lv_aload_n hx hb dX3_findRoom_49 rfl (lv_at hl 2 rfl) ?_
        refine m_get hx hb hts in_X3_findRoom_X3 hown hK hM mS4_4 rfl 2 (by decide) (by decide +kernel) rfl dX3_findRoom_50 ?_
        refine lv_iload hx hb dX3_findRoom_53 (lv_at hl 0 rfl) ?_
        refine lv_iand hx hb dX3_findRoom_55 ?_
        refine lv_if_ne (tgt := 105) hx hb dX3_findRoom_56 (by decide) (fun c56 => ?_) (fun c56 => ?_)
        · refine lv_iinc (v := nI (i + 1)) (lv' := [(3, .int (nI (i + 1))), (4, .int (1 <<< ((nI i) &&& 31))), (0, .ref (g 4)), (1, .int (nI u)), (2, .int 4)]) hx hb dX3_findRoom_105 hl (k := 1) rfl (m_inc _) (by decide) rfl (fun ls hl => ?_)
          refine lv_goto (tgt := 23) hx hb dX3_findRoom_108 (by decide) ?_
          exact ih23 (i + 1) (by omega) _ _ t ⟨hM, hHO, by rw [show 10 - i = (10 - (i + 1)) + 1 by omega, kL, if_neg c46, if_pos c56] at hkL; exact hkL⟩ hS ls (lv_sub hl [0, 2, 3, 4] rfl)
        · refine lv_aload_n hx hb dX3_findRoom_59 rfl (lv_at hl 2 rfl) ?_
          refine lv_dup hx hb dX3_findRoom_60 rfl ?_
          refine m_get hx hb hts in_X3_findRoom_X3 hown hK hM mS4_4 rfl 2 (by decide) (by decide +kernel) rfl dX3_findRoom_61 ?_
          refine lv_iload hx hb dX3_findRoom_64 (lv_at hl 0 rfl) ?_
          refine lv_ior hx hb dX3_findRoom_66 ?_
          refine m_put hx hb hts in_X3_findRoom_X3 tyX3 tyX3_ok nmX3 hown hK hM hS mS4_4 rfl 2 (by decide) (by decide +kernel) rfl (tyX3_ok 2 (by decide)) rfl rfl (Nat.le_of_ble_eq_true rfl) dX3_findRoom_67 (fun H locs hM hz hS => ?_)
          have hM : mP E A g (mu (mS4 E g M t) 4 (.inr (4, [.ref (g 5), .ref (g 6), .int (t.1 ||| (1 <<< ((nI i) &&& 31)))]))) H := hM
          rw [mS4_p4] at hM
          refine lv_aload_n hx hb dX3_findRoom_70 rfl (lv_at hl 2 rfl) ?_
          refine m_get hx hb hts in_X3_findRoom_X3 hown hK hM mS4_4 rfl 1 (by decide) (by decide +kernel) rfl dX3_findRoom_71 ?_
          refine lv_iload_n hx hb dX3_findRoom_74 rfl (lv_at hl 1 rfl) ?_
          refine m_iald (v := t.2 i) hx hb hK hM mS4_6 (ix_ok (by omega)) (rd_ok (by omega) rfl) dX3_findRoom_75 ?_
          refine lv_istore (lv' := [(5, .int (t.2 i)), (4, .int (1 <<< ((nI i) &&& 31))), (3, .int (nI i)), (0, .ref (g 4)), (1, .int (nI u)), (2, .int 4)]) hx hb dX3_findRoom_76 hl (by decide) rfl (fun ls hl => ?_)
          refine lv_iload hx hb dX3_findRoom_78 (lv_at hl 0 rfl) ?_
          refine lv_iconst (v := (-1)) hx hb dX3_findRoom_80 (by decide) ?_
          refine lv_icmp_eq (tgt := 96) hx hb dX3_findRoom_81 (by decide) (fun c81 => ?_) (fun c81 => ?_)
          · refine lv_aload_n hx hb dX3_findRoom_96 rfl (lv_at hl 3 rfl) ?_
            refine m_get hx hb hts in_X3_findRoom_X3 hown hK hM mS4_4 rfl 1 (by decide) (by decide +kernel) rfl dX3_findRoom_97 ?_
            refine lv_iload_n hx hb dX3_findRoom_100 rfl (lv_at hl 2 rfl) ?_
            refine lv_iload_n hx hb dX3_findRoom_101 rfl (lv_at hl 4 rfl) ?_
            refine m_iast hx hb hK hM hS mS4_6 (ix_ok (by omega)) dX3_findRoom_102 (fun H locs hM hz hS => ?_)
            rw [mS4_p6] at hM
            refine lv_iconst (v := 1) hx hb dX3_findRoom_103 (by decide) ?_
            exact w_z hx hb hr hlocks dX3_findRoom_104 hS (Nat.le_of_ble_eq_true rfl) (Nat.le_of_ble_eq_true rfl) (by rw [← hkL, show 10 - i = (10 - (i + 1)) + 1 by omega, kL, if_neg c46, if_neg (fun q => q c56), if_pos c81]; rfl) (by rw [← hkL, show 10 - i = (10 - (i + 1)) + 1 by omega, kL, if_neg c46, if_neg (fun q => q c56), if_pos c81]; rw [nI_clamp (show i < 2 ^ 31 by omega)] at hM; exact hM)
          · obtain ⟨v9, hv8, hv9⟩ := (hHO i (by omega)).resolve_left c81
            rw [hv9] at hl
            refine lv_aload_n hx hb dX3_findRoom_84 rfl (lv_at hl 3 rfl) ?_
            refine lv_iload hx hb dX3_findRoom_85 (lv_at hl 0 rfl) ?_
            refine lv_iload_n hx hb dX3_findRoom_87 rfl (lv_at hl 5 rfl) ?_
            refine lv_iconst (v := 1) hx hb dX3_findRoom_88 (by decide) ?_
            refine lv_iadd hx hb dX3_findRoom_89 ?_
            rw [show ((4 : Int32) + 1) = 5 from by decide]
            refine m_wS 3 [.ref (g 4), .int (nI v9), .int 5] [] hx hb hml hown hts hK (c_find6 l E A g (mS4 E g M (t.1 ||| (1 <<< ((nI i) &&& 31)), t.2)) al (t.1 ||| (1 <<< ((nI i) &&& 31))) t.2 mS4_4 (mS4_5.trans h5) mS4_6 hHO v9 hv8) gX3_findRoom_X3_findRoom rfl rfl rfl (by decide +kernel) rfl ⟨Nat.le_of_ble_eq_true rfl, Nat.le_of_ble_eq_true rfl⟩ hM hl.1 (Nat.le_of_ble_eq_true rfl) ⟨Nat.le_of_ble_eq_true rfl, Nat.le_of_ble_eq_true rfl⟩ rfl dX3_findRoom_90 hS (fun _ _ h => h) (fun _ h => h) (fun H locs hQ hz hk hS => ?_)
            refine W.eq (g2 := F0 m 93 ls [.int (bI (kF al 6 v9 (t.1 ||| (1 <<< ((nI i) &&& 31)), t.2)).1)]) rfl ?_
            rw [mS4_2] at hQ
            obtain ⟨b9, t9, hr9⟩ : ∃ b t', kF al 6 v9 (t.1 ||| (1 <<< ((nI i) &&& 31)), t.2) = (b, t') := ⟨_, _, rfl⟩
            have hHO9 := kF_ok al 6 v9 (t.1 ||| (1 <<< ((nI i) &&& 31)), t.2) hv8 hHO
            rw [hr9] at hQ hHO9 ⊢
            have hM : mP E A g (mS4 E g M t9) H := hQ
            refine W.eq (g2 := F0 m 93 ls [.int (bI b9)]) rfl ?_
            refine lv_if_eq (tgt := 105) hx hb dX3_findRoom_93 (by decide) (fun c93 => ?_) (fun c93 => ?_)
            · have c93 := bI_f c93
              subst c93
              refine lv_iinc (v := nI (i + 1)) (lv' := [(3, .int (nI (i + 1))), (5, .int (nI v9)), (4, .int (1 <<< ((nI i) &&& 31))), (0, .ref (g 4)), (1, .int (nI u)), (2, .int 4)]) hx hb dX3_findRoom_105 hl (k := 2) rfl (m_inc _) (by decide) rfl (fun ls hl => ?_)
              refine lv_goto (tgt := 23) hx hb dX3_findRoom_108 (by decide) ?_
              exact ih23 (i + 1) (by omega) _ _ t9 ⟨hM, hHO9, by rw [show 10 - i = (10 - (i + 1)) + 1 by omega, kL, if_neg c46, if_neg (fun q => q c56), if_neg c81, hv9, nI_clamp (show v9 < 2 ^ 31 by omega), hr9] at hkL; exact hkL⟩ hS ls (lv_sub hl [0, 3, 4, 5] rfl)
            · have c93 := bI_t c93
              subst c93
              refine lv_aload_n hx hb dX3_findRoom_96 rfl (lv_at hl 3 rfl) ?_
              refine m_get hx hb hts in_X3_findRoom_X3 hown hK hM mS4_4 rfl 1 (by decide) (by decide +kernel) rfl dX3_findRoom_97 ?_
              refine lv_iload_n hx hb dX3_findRoom_100 rfl (lv_at hl 2 rfl) ?_
              refine lv_iload_n hx hb dX3_findRoom_101 rfl (lv_at hl 4 rfl) ?_
              refine m_iast hx hb hK hM hS mS4_6 (ix_ok (by omega)) dX3_findRoom_102 (fun H locs hM hz hS => ?_)
              rw [mS4_p6] at hM
              refine lv_iconst (v := 1) hx hb dX3_findRoom_103 (by decide) ?_
              exact w_z hx hb hr hlocks dX3_findRoom_104 hS (Nat.le_of_ble_eq_true rfl) (Nat.le_of_ble_eq_true rfl) (by rw [← hkL, show 10 - i = (10 - (i + 1)) + 1 by omega, kL, if_neg c46, if_neg (fun q => q c56), if_neg c81, hv9, nI_clamp (show v9 < 2 ^ 31 by omega), hr9]; rfl) (by rw [← hkL, show 10 - i = (10 - (i + 1)) + 1 by omega, kL, if_neg c46, if_neg (fun q => q c56), if_neg c81, hv9, nI_clamp (show v9 < 2 ^ 31 by omega), hr9]; rw [nI_clamp (show i < 2 ^ 31 by omega)] at hM; exact hM)
  exact lp23 (10) 0 (by omega) _ _ (sa, ho) ⟨by rw [mS4_id h4 h6]; exact hM, hho, rfl⟩ hS ls (lv_sub hl [0, 1, 2, 3] rfl)
set_option maxHeartbeats 4000000 in
set_option maxRecDepth 100000 in
theorem c_find8 (l : Launch) (E : gE) (A : Nat → Prop) (g : Nat → Nat) (M : gM) (al : Nat → Int32) (sa : Int32) (ho : Nat → Int32) (h4 : M 4 = some (.inr (4, [.ref (g 5), .ref (g 6), .int sa]))) (h5 : M 5 = some (.inl (E.2.1, 12, .inl al))) (h6 : M 6 = some (.inl (E.2.1, 10, .inl ho))) (hho : HO ho) (u : Nat) (hu : u < 12) : Met l yX3_findRoom wsX3_findRoom ({ frames := 8, cells := 0, slots := 0, locals := 200 } : Room) (Pm E [.ref (g 4), .int (nI u), .int 3] (mP E A g M)) (QW (some (.int (bI (kF al 8 u (sa, ho)).1))) (mP E A g (mS4 E g M (kF al 8 u (sa, ho)).2)) A) 0 0 A := by
  refine m_entry (by decide) rfl (Nat.le_of_ble_eq_true rfl) ?_
  intro p e s m args below meth c hx hb hr hml hts hown hlocks hin hM hK ls hl
  have hl : lv_has ls 6 [(0, .ref (g 4)), (1, .int (nI u)), (2, .int 3)] := hl
  have hown : s.vm.findClass RX3 = some m.cls := hown
  have hS : va_S A s.heap s.heap [] := va_S.rf
  skip
  refine lv_iload_n hx hb dX3_findRoom_0 rfl (lv_at hl 1 rfl) ?_
  refine lv_if_lt (tgt := 19) hx hb dX3_findRoom_1 (by decide) (fun c9 => absurd c9 (nI_pos (by omega))) (fun c1 => ?_)
  refine lv_iload_n hx hb dX3_findRoom_4 rfl (lv_at hl 1 rfl) ?_
  refine lv_aload_n hx hb dX3_findRoom_5 rfl (lv_at hl 0 rfl) ?_
  refine m_get hx hb hts in_X3_findRoom_X3 hown hK hM h4 rfl 0 (by decide) (by decide +kernel) rfl dX3_findRoom_6 ?_
  refine m_alen (v := nI 12) hx hb hK hM h5 rfl dX3_findRoom_9 ?_
  refine lv_icmp_ge (tgt := 19) hx hb dX3_findRoom_10 (by decide) (fun c9 => absurd c9 (nI_ge hu (by decide))) (fun c10 => ?_)
  refine lv_iload_n hx hb dX3_findRoom_13 rfl (lv_at hl 2 rfl) ?_
  refine lv_bipush (v := 10) hx hb dX3_findRoom_14 (by decide) ?_
  refine lv_icmp_le (tgt := 21) hx hb dX3_findRoom_16 (by decide) (fun c9 => ?_) (fun c9 => absurd c9 (by decide))
  refine lv_iconst (v := 0) hx hb dX3_findRoom_21 (by decide) ?_
  refine lv_istore_n (lv' := [(3, .int 0), (0, .ref (g 4)), (1, .int (nI u)), (2, .int 3)]) hx hb dX3_findRoom_22 rfl hl (by decide) rfl (fun ls hl => ?_)
  have lp23 : ∀ (n23 i : Nat), n23 + i = 10 → ∀ (H : Heap) (locs : List Loc) (t : gK), (mP E A g (mS4 E g M t) H ∧ HO t.2 ∧ kL (kF al 7) (al u) u (10 - i) i t = kF al 8 u (sa, ho)) → va_S A s.heap H locs → ∀ ls : Array Slot, lv_has ls 6 [(3, .int (nI i)), (0, .ref (g 4)), (1, .int (nI u)), (2, .int 3)] → W p l e ({ frames := 8, cells := 0, slots := 0, locals := 200 } : Room) s m args below meth c H locs 0 0 (MQ below (QW (some (.int (bI (kF al 8 u (sa, ho)).1))) (mP E A g (mS4 E g M (kF al 8 u (sa, ho)).2)) A) args s 0 0 A) (F0 m 23 ls []) := by
    intro n23
    induction n23 with
    | zero =>
      intro i hi23 H locs t hI hS ls hl
      obtain ⟨hM, hHO, hkL⟩ := hI
      obtain rfl : 10 = i := by omega
      refine lv_iload_n hx hb dX3_findRoom_23 rfl (lv_at hl 0 rfl) ?_
      refine lv_aload_n hx hb dX3_findRoom_24 rfl (lv_at hl 1 rfl) ?_
      refine m_get hx hb hts in_X3_findRoom_X3 hown hK hM mS4_4 rfl 1 (by decide) (by decide +kernel) rfl dX3_findRoom_25 ?_
      refine m_alen (v := nI 10) hx hb hK hM mS4_6 rfl dX3_findRoom_28 ?_
      refine lv_icmp_ge (tgt := 111) hx hb dX3_findRoom_29 (by decide) (fun c29 => ?_) (fun c9 => absurd (Int32.le_refl _) c9)
      refine lv_iconst (v := 0) hx hb dX3_findRoom_111 (by decide) ?_
      exact w_z hx hb hr hlocks dX3_findRoom_112 hS (Nat.le_of_ble_eq_true rfl) (Nat.le_of_ble_eq_true rfl) (by rw [← hkL]; rfl) (by rw [← hkL]; exact hM)
    | succ n23 ih23 =>
      intro i hi23 H locs t hI hS ls hl
      obtain ⟨hM, hHO, hkL⟩ := hI
      have hlt23 : i < 10 := by omega
      refine lv_iload_n hx hb dX3_findRoom_23 rfl (lv_at hl 0 rfl) ?_
      refine lv_aload_n hx hb dX3_findRoom_24 rfl (lv_at hl 1 rfl) ?_
      refine m_get hx hb hts in_X3_findRoom_X3 hown hK hM mS4_4 rfl 1 (by decide) (by decide +kernel) rfl dX3_findRoom_25 ?_
      refine m_alen (v := nI 10) hx hb hK hM mS4_6 rfl dX3_findRoom_28 ?_
      refine lv_icmp_ge (tgt := 111) hx hb dX3_findRoom_29 (by decide) (fun c9 => absurd c9 (nI_ge (b := 10) hlt23 (by omega))) (fun c29 => ?_)
      refine lv_iconst (v := 1) hx hb dX3_findRoom_32 (by decide) ?_
      refine lv_iload_n hx hb dX3_findRoom_33 rfl (lv_at hl 0 rfl) ?_
      refine lv_ishl hx hb dX3_findRoom_34 ?_
      refine lv_istore (lv' := [(4, .int (1 <<< ((nI i) &&& 31))), (3, .int (nI i)), (0, .ref (g 4)), (1, .int (nI u)), (2, .int 3)]) hx hb dX3_findRoom_35 hl (by decide) rfl (fun ls hl => ?_)
      refine lv_aload_n hx hb dX3_findRoom_37 rfl (lv_at hl 2 rfl) ?_
      refine m_get hx hb hts in_X3_findRoom_X3 hown hK hM mS4_4 rfl 0 (by decide) (by decide +kernel) rfl dX3_findRoom_38 ?_
      refine lv_iload_n hx hb dX3_findRoom_41 rfl (lv_at hl 3 rfl) ?_
      refine m_iald (v := al u) hx hb hK hM (mS4_5.trans h5) (ix_ok (by omega)) (rd_ok (by omega) rfl) dX3_findRoom_42 ?_
      refine lv_iload hx hb dX3_findRoom_43 (lv_at hl 0 rfl) ?_
      refine lv_iand hx hb dX3_findRoom_45 ?_
      refine lv_if_eq (tgt := 105) hx hb dX3_findRoom_46 (by decide) (fun c46 => ?_) (fun c46 => ?_)
      · refine lv_iinc (v := nI (i + 1)) (lv' := [(3, .int (nI (i + 1))), (4, .int (1 <<< ((nI i) &&& 31))), (0, .ref (g 4)), (1, .int (nI u)), (2, .int 3)]) hx hb dX3_findRoom_105 hl (k := 1) rfl (m_inc _) (by decide) rfl (fun ls hl => ?_)
        refine lv_goto (tgt := 23) hx hb dX3_findRoom_108 (by decide) ?_
        exact ih23 (i + 1) (by omega) _ _ t ⟨hM, hHO, by rw [show 10 - i = (10 - (i + 1)) + 1 by omega, kL, if_pos c46] at hkL; exact hkL⟩ hS ls (lv_sub hl [0, 2, 3, 4] rfl)
      · refine lv_aload_n hx hb dX3_findRoom_49 rfl (lv_at hl 2 rfl) ?_
        refine m_get hx hb hts in_X3_findRoom_X3 hown hK hM mS4_4 rfl 2 (by decide) (by decide +kernel) rfl dX3_findRoom_50 ?_
        refine lv_iload hx hb dX3_findRoom_53 (lv_at hl 0 rfl) ?_
        refine lv_iand hx hb dX3_findRoom_55 ?_
        refine lv_if_ne (tgt := 105) hx hb dX3_findRoom_56 (by decide) (fun c56 => ?_) (fun c56 => ?_)
        · refine lv_iinc (v := nI (i + 1)) (lv' := [(3, .int (nI (i + 1))), (4, .int (1 <<< ((nI i) &&& 31))), (0, .ref (g 4)), (1, .int (nI u)), (2, .int 3)]) hx hb dX3_findRoom_105 hl (k := 1) rfl (m_inc _) (by decide) rfl (fun ls hl => ?_)
          refine lv_goto (tgt := 23) hx hb dX3_findRoom_108 (by decide) ?_
          exact ih23 (i + 1) (by omega) _ _ t ⟨hM, hHO, by rw [show 10 - i = (10 - (i + 1)) + 1 by omega, kL, if_neg c46, if_pos c56] at hkL; exact hkL⟩ hS ls (lv_sub hl [0, 2, 3, 4] rfl)
        · refine lv_aload_n hx hb dX3_findRoom_59 rfl (lv_at hl 2 rfl) ?_
          refine lv_dup hx hb dX3_findRoom_60 rfl ?_
          refine m_get hx hb hts in_X3_findRoom_X3 hown hK hM mS4_4 rfl 2 (by decide) (by decide +kernel) rfl dX3_findRoom_61 ?_
          refine lv_iload hx hb dX3_findRoom_64 (lv_at hl 0 rfl) ?_
          refine lv_ior hx hb dX3_findRoom_66 ?_
          refine m_put hx hb hts in_X3_findRoom_X3 tyX3 tyX3_ok nmX3 hown hK hM hS mS4_4 rfl 2 (by decide) (by decide +kernel) rfl (tyX3_ok 2 (by decide)) rfl rfl (Nat.le_of_ble_eq_true rfl) dX3_findRoom_67 (fun H locs hM hz hS => ?_)
          have hM : mP E A g (mu (mS4 E g M t) 4 (.inr (4, [.ref (g 5), .ref (g 6), .int (t.1 ||| (1 <<< ((nI i) &&& 31)))]))) H := hM
          rw [mS4_p4] at hM
          refine lv_aload_n hx hb dX3_findRoom_70 rfl (lv_at hl 2 rfl) ?_
          refine m_get hx hb hts in_X3_findRoom_X3 hown hK hM mS4_4 rfl 1 (by decide) (by decide +kernel) rfl dX3_findRoom_71 ?_
          refine lv_iload_n hx hb dX3_findRoom_74 rfl (lv_at hl 1 rfl) ?_
          refine m_iald (v := t.2 i) hx hb hK hM mS4_6 (ix_ok (by omega)) (rd_ok (by omega) rfl) dX3_findRoom_75 ?_
          refine lv_istore (lv' := [(5, .int (t.2 i)), (4, .int (1 <<< ((nI i) &&& 31))), (3, .int (nI i)), (0, .ref (g 4)), (1, .int (nI u)), (2, .int 3)]) hx hb dX3_findRoom_76 hl (by decide) rfl (fun ls hl => ?_)
          refine lv_iload hx hb dX3_findRoom_78 (lv_at hl 0 rfl) ?_
          refine lv_iconst (v := (-1)) hx hb dX3_findRoom_80 (by decide) ?_
          refine lv_icmp_eq (tgt := 96) hx hb dX3_findRoom_81 (by decide) (fun c81 => ?_) (fun c81 => ?_)
          · refine lv_aload_n hx hb dX3_findRoom_96 rfl (lv_at hl 3 rfl) ?_
            refine m_get hx hb hts in_X3_findRoom_X3 hown hK hM mS4_4 rfl 1 (by decide) (by decide +kernel) rfl dX3_findRoom_97 ?_
            refine lv_iload_n hx hb dX3_findRoom_100 rfl (lv_at hl 2 rfl) ?_
            refine lv_iload_n hx hb dX3_findRoom_101 rfl (lv_at hl 4 rfl) ?_
            refine m_iast hx hb hK hM hS mS4_6 (ix_ok (by omega)) dX3_findRoom_102 (fun H locs hM hz hS => ?_)
            rw [mS4_p6] at hM
            refine lv_iconst (v := 1) hx hb dX3_findRoom_103 (by decide) ?_
            exact w_z hx hb hr hlocks dX3_findRoom_104 hS (Nat.le_of_ble_eq_true rfl) (Nat.le_of_ble_eq_true rfl) (by rw [← hkL, show 10 - i = (10 - (i + 1)) + 1 by omega, kL, if_neg c46, if_neg (fun q => q c56), if_pos c81]; rfl) (by rw [← hkL, show 10 - i = (10 - (i + 1)) + 1 by omega, kL, if_neg c46, if_neg (fun q => q c56), if_pos c81]; rw [nI_clamp (show i < 2 ^ 31 by omega)] at hM; exact hM)
          · obtain ⟨v9, hv8, hv9⟩ := (hHO i (by omega)).resolve_left c81
            rw [hv9] at hl
            refine lv_aload_n hx hb dX3_findRoom_84 rfl (lv_at hl 3 rfl) ?_
            refine lv_iload hx hb dX3_findRoom_85 (lv_at hl 0 rfl) ?_
            refine lv_iload_n hx hb dX3_findRoom_87 rfl (lv_at hl 5 rfl) ?_
            refine lv_iconst (v := 1) hx hb dX3_findRoom_88 (by decide) ?_
            refine lv_iadd hx hb dX3_findRoom_89 ?_
            rw [show ((3 : Int32) + 1) = 4 from by decide]
            refine m_wS 3 [.ref (g 4), .int (nI v9), .int 4] [] hx hb hml hown hts hK (c_find7 l E A g (mS4 E g M (t.1 ||| (1 <<< ((nI i) &&& 31)), t.2)) al (t.1 ||| (1 <<< ((nI i) &&& 31))) t.2 mS4_4 (mS4_5.trans h5) mS4_6 hHO v9 hv8) gX3_findRoom_X3_findRoom rfl rfl rfl (by decide +kernel) rfl ⟨Nat.le_of_ble_eq_true rfl, Nat.le_of_ble_eq_true rfl⟩ hM hl.1 (Nat.le_of_ble_eq_true rfl) ⟨Nat.le_of_ble_eq_true rfl, Nat.le_of_ble_eq_true rfl⟩ rfl dX3_findRoom_90 hS (fun _ _ h => h) (fun _ h => h) (fun H locs hQ hz hk hS => ?_)
            refine W.eq (g2 := F0 m 93 ls [.int (bI (kF al 7 v9 (t.1 ||| (1 <<< ((nI i) &&& 31)), t.2)).1)]) rfl ?_
            rw [mS4_2] at hQ
            obtain ⟨b9, t9, hr9⟩ : ∃ b t', kF al 7 v9 (t.1 ||| (1 <<< ((nI i) &&& 31)), t.2) = (b, t') := ⟨_, _, rfl⟩
            have hHO9 := kF_ok al 7 v9 (t.1 ||| (1 <<< ((nI i) &&& 31)), t.2) hv8 hHO
            rw [hr9] at hQ hHO9 ⊢
            have hM : mP E A g (mS4 E g M t9) H := hQ
            refine W.eq (g2 := F0 m 93 ls [.int (bI b9)]) rfl ?_
            refine lv_if_eq (tgt := 105) hx hb dX3_findRoom_93 (by decide) (fun c93 => ?_) (fun c93 => ?_)
            · have c93 := bI_f c93
              subst c93
              refine lv_iinc (v := nI (i + 1)) (lv' := [(3, .int (nI (i + 1))), (5, .int (nI v9)), (4, .int (1 <<< ((nI i) &&& 31))), (0, .ref (g 4)), (1, .int (nI u)), (2, .int 3)]) hx hb dX3_findRoom_105 hl (k := 2) rfl (m_inc _) (by decide) rfl (fun ls hl => ?_)
              refine lv_goto (tgt := 23) hx hb dX3_findRoom_108 (by decide) ?_
              exact ih23 (i + 1) (by omega) _ _ t9 ⟨hM, hHO9, by rw [show 10 - i = (10 - (i + 1)) + 1 by omega, kL, if_neg c46, if_neg (fun q => q c56), if_neg c81, hv9, nI_clamp (show v9 < 2 ^ 31 by omega), hr9] at hkL; exact hkL⟩ hS ls (lv_sub hl [0, 3, 4, 5] rfl)
            · have c93 := bI_t c93
              subst c93
              refine lv_aload_n hx hb dX3_findRoom_96 rfl (lv_at hl 3 rfl) ?_
              refine m_get hx hb hts in_X3_findRoom_X3 hown hK hM mS4_4 rfl 1 (by decide) (by decide +kernel) rfl dX3_findRoom_97 ?_
              refine lv_iload_n hx hb dX3_findRoom_100 rfl (lv_at hl 2 rfl) ?_
              refine lv_iload_n hx hb dX3_findRoom_101 rfl (lv_at hl 4 rfl) ?_
              refine m_iast hx hb hK hM hS mS4_6 (ix_ok (by omega)) dX3_findRoom_102 (fun H locs hM hz hS => ?_)
              rw [mS4_p6] at hM
              refine lv_iconst (v := 1) hx hb dX3_findRoom_103 (by decide) ?_
              exact w_z hx hb hr hlocks dX3_findRoom_104 hS (Nat.le_of_ble_eq_true rfl) (Nat.le_of_ble_eq_true rfl) (by rw [← hkL, show 10 - i = (10 - (i + 1)) + 1 by omega, kL, if_neg c46, if_neg (fun q => q c56), if_neg c81, hv9, nI_clamp (show v9 < 2 ^ 31 by omega), hr9]; rfl) (by rw [← hkL, show 10 - i = (10 - (i + 1)) + 1 by omega, kL, if_neg c46, if_neg (fun q => q c56), if_neg c81, hv9, nI_clamp (show v9 < 2 ^ 31 by omega), hr9]; rw [nI_clamp (show i < 2 ^ 31 by omega)] at hM; exact hM)
  exact lp23 (10) 0 (by omega) _ _ (sa, ho) ⟨by rw [mS4_id h4 h6]; exact hM, hho, rfl⟩ hS ls (lv_sub hl [0, 1, 2, 3] rfl)
set_option maxHeartbeats 4000000 in
set_option maxRecDepth 100000 in
theorem c_find9 (l : Launch) (E : gE) (A : Nat → Prop) (g : Nat → Nat) (M : gM) (al : Nat → Int32) (sa : Int32) (ho : Nat → Int32) (h4 : M 4 = some (.inr (4, [.ref (g 5), .ref (g 6), .int sa]))) (h5 : M 5 = some (.inl (E.2.1, 12, .inl al))) (h6 : M 6 = some (.inl (E.2.1, 10, .inl ho))) (hho : HO ho) (u : Nat) (hu : u < 12) : Met l yX3_findRoom wsX3_findRoom ({ frames := 9, cells := 0, slots := 0, locals := 225 } : Room) (Pm E [.ref (g 4), .int (nI u), .int 2] (mP E A g M)) (QW (some (.int (bI (kF al 9 u (sa, ho)).1))) (mP E A g (mS4 E g M (kF al 9 u (sa, ho)).2)) A) 0 0 A := by
  refine m_entry (by decide) rfl (Nat.le_of_ble_eq_true rfl) ?_
  intro p e s m args below meth c hx hb hr hml hts hown hlocks hin hM hK ls hl
  have hl : lv_has ls 6 [(0, .ref (g 4)), (1, .int (nI u)), (2, .int 2)] := hl
  have hown : s.vm.findClass RX3 = some m.cls := hown
  have hS : va_S A s.heap s.heap [] := va_S.rf
  skip
  refine lv_iload_n hx hb dX3_findRoom_0 rfl (lv_at hl 1 rfl) ?_
  refine lv_if_lt (tgt := 19) hx hb dX3_findRoom_1 (by decide) (fun c9 => absurd c9 (nI_pos (by omega))) (fun c1 => ?_)
  refine lv_iload_n hx hb dX3_findRoom_4 rfl (lv_at hl 1 rfl) ?_
  refine lv_aload_n hx hb dX3_findRoom_5 rfl (lv_at hl 0 rfl) ?_
  refine m_get hx hb hts in_X3_findRoom_X3 hown hK hM h4 rfl 0 (by decide) (by decide +kernel) rfl dX3_findRoom_6 ?_
  refine m_alen (v := nI 12) hx hb hK hM h5 rfl dX3_findRoom_9 ?_
  refine lv_icmp_ge (tgt := 19) hx hb dX3_findRoom_10 (by decide) (fun c9 => absurd c9 (nI_ge hu (by decide))) (fun c10 => ?_)
  refine lv_iload_n hx hb dX3_findRoom_13 rfl (lv_at hl 2 rfl) ?_
  refine lv_bipush (v := 10) hx hb dX3_findRoom_14 (by decide) ?_
  refine lv_icmp_le (tgt := 21) hx hb dX3_findRoom_16 (by decide) (fun c9 => ?_) (fun c9 => absurd c9 (by decide))
  refine lv_iconst (v := 0) hx hb dX3_findRoom_21 (by decide) ?_
  refine lv_istore_n (lv' := [(3, .int 0), (0, .ref (g 4)), (1, .int (nI u)), (2, .int 2)]) hx hb dX3_findRoom_22 rfl hl (by decide) rfl (fun ls hl => ?_)
  have lp23 : ∀ (n23 i : Nat), n23 + i = 10 → ∀ (H : Heap) (locs : List Loc) (t : gK), (mP E A g (mS4 E g M t) H ∧ HO t.2 ∧ kL (kF al 8) (al u) u (10 - i) i t = kF al 9 u (sa, ho)) → va_S A s.heap H locs → ∀ ls : Array Slot, lv_has ls 6 [(3, .int (nI i)), (0, .ref (g 4)), (1, .int (nI u)), (2, .int 2)] → W p l e ({ frames := 9, cells := 0, slots := 0, locals := 225 } : Room) s m args below meth c H locs 0 0 (MQ below (QW (some (.int (bI (kF al 9 u (sa, ho)).1))) (mP E A g (mS4 E g M (kF al 9 u (sa, ho)).2)) A) args s 0 0 A) (F0 m 23 ls []) := by
    intro n23
    induction n23 with
    | zero =>
      intro i hi23 H locs t hI hS ls hl
      obtain ⟨hM, hHO, hkL⟩ := hI
      obtain rfl : 10 = i := by omega
      refine lv_iload_n hx hb dX3_findRoom_23 rfl (lv_at hl 0 rfl) ?_
      refine lv_aload_n hx hb dX3_findRoom_24 rfl (lv_at hl 1 rfl) ?_
      refine m_get hx hb hts in_X3_findRoom_X3 hown hK hM mS4_4 rfl 1 (by decide) (by decide +kernel) rfl dX3_findRoom_25 ?_
      refine m_alen (v := nI 10) hx hb hK hM mS4_6 rfl dX3_findRoom_28 ?_
      refine lv_icmp_ge (tgt := 111) hx hb dX3_findRoom_29 (by decide) (fun c29 => ?_) (fun c9 => absurd (Int32.le_refl _) c9)
      refine lv_iconst (v := 0) hx hb dX3_findRoom_111 (by decide) ?_
      exact w_z hx hb hr hlocks dX3_findRoom_112 hS (Nat.le_of_ble_eq_true rfl) (Nat.le_of_ble_eq_true rfl) (by rw [← hkL]; rfl) (by rw [← hkL]; exact hM)
    | succ n23 ih23 =>
      intro i hi23 H locs t hI hS ls hl
      obtain ⟨hM, hHO, hkL⟩ := hI
      have hlt23 : i < 10 := by omega
      refine lv_iload_n hx hb dX3_findRoom_23 rfl (lv_at hl 0 rfl) ?_
      refine lv_aload_n hx hb dX3_findRoom_24 rfl (lv_at hl 1 rfl) ?_
      refine m_get hx hb hts in_X3_findRoom_X3 hown hK hM mS4_4 rfl 1 (by decide) (by decide +kernel) rfl dX3_findRoom_25 ?_
      refine m_alen (v := nI 10) hx hb hK hM mS4_6 rfl dX3_findRoom_28 ?_
      refine lv_icmp_ge (tgt := 111) hx hb dX3_findRoom_29 (by decide) (fun c9 => absurd c9 (nI_ge (b := 10) hlt23 (by omega))) (fun c29 => ?_)
      refine lv_iconst (v := 1) hx hb dX3_findRoom_32 (by decide) ?_
      refine lv_iload_n hx hb dX3_findRoom_33 rfl (lv_at hl 0 rfl) ?_
      refine lv_ishl hx hb dX3_findRoom_34 ?_
      refine lv_istore (lv' := [(4, .int (1 <<< ((nI i) &&& 31))), (3, .int (nI i)), (0, .ref (g 4)), (1, .int (nI u)), (2, .int 2)]) hx hb dX3_findRoom_35 hl (by decide) rfl (fun ls hl => ?_)
      refine lv_aload_n hx hb dX3_findRoom_37 rfl (lv_at hl 2 rfl) ?_
      refine m_get hx hb hts in_X3_findRoom_X3 hown hK hM mS4_4 rfl 0 (by decide) (by decide +kernel) rfl dX3_findRoom_38 ?_
      refine lv_iload_n hx hb dX3_findRoom_41 rfl (lv_at hl 3 rfl) ?_
      refine m_iald (v := al u) hx hb hK hM (mS4_5.trans h5) (ix_ok (by omega)) (rd_ok (by omega) rfl) dX3_findRoom_42 ?_
      refine lv_iload hx hb dX3_findRoom_43 (lv_at hl 0 rfl) ?_
      refine lv_iand hx hb dX3_findRoom_45 ?_
      refine lv_if_eq (tgt := 105) hx hb dX3_findRoom_46 (by decide) (fun c46 => ?_) (fun c46 => ?_)
      · refine lv_iinc (v := nI (i + 1)) (lv' := [(3, .int (nI (i + 1))), (4, .int (1 <<< ((nI i) &&& 31))), (0, .ref (g 4)), (1, .int (nI u)), (2, .int 2)]) hx hb dX3_findRoom_105 hl (k := 1) rfl (m_inc _) (by decide) rfl (fun ls hl => ?_)
        refine lv_goto (tgt := 23) hx hb dX3_findRoom_108 (by decide) ?_
        exact ih23 (i + 1) (by omega) _ _ t ⟨hM, hHO, by rw [show 10 - i = (10 - (i + 1)) + 1 by omega, kL, if_pos c46] at hkL; exact hkL⟩ hS ls (lv_sub hl [0, 2, 3, 4] rfl)
      · refine lv_aload_n hx hb dX3_findRoom_49 rfl (lv_at hl 2 rfl) ?_
        refine m_get hx hb hts in_X3_findRoom_X3 hown hK hM mS4_4 rfl 2 (by decide) (by decide +kernel) rfl dX3_findRoom_50 ?_
        refine lv_iload hx hb dX3_findRoom_53 (lv_at hl 0 rfl) ?_
        refine lv_iand hx hb dX3_findRoom_55 ?_
        refine lv_if_ne (tgt := 105) hx hb dX3_findRoom_56 (by decide) (fun c56 => ?_) (fun c56 => ?_)
        · refine lv_iinc (v := nI (i + 1)) (lv' := [(3, .int (nI (i + 1))), (4, .int (1 <<< ((nI i) &&& 31))), (0, .ref (g 4)), (1, .int (nI u)), (2, .int 2)]) hx hb dX3_findRoom_105 hl (k := 1) rfl (m_inc _) (by decide) rfl (fun ls hl => ?_)
          refine lv_goto (tgt := 23) hx hb dX3_findRoom_108 (by decide) ?_
          exact ih23 (i + 1) (by omega) _ _ t ⟨hM, hHO, by rw [show 10 - i = (10 - (i + 1)) + 1 by omega, kL, if_neg c46, if_pos c56] at hkL; exact hkL⟩ hS ls (lv_sub hl [0, 2, 3, 4] rfl)
        · refine lv_aload_n hx hb dX3_findRoom_59 rfl (lv_at hl 2 rfl) ?_
          refine lv_dup hx hb dX3_findRoom_60 rfl ?_
          refine m_get hx hb hts in_X3_findRoom_X3 hown hK hM mS4_4 rfl 2 (by decide) (by decide +kernel) rfl dX3_findRoom_61 ?_
          refine lv_iload hx hb dX3_findRoom_64 (lv_at hl 0 rfl) ?_
          refine lv_ior hx hb dX3_findRoom_66 ?_
          refine m_put hx hb hts in_X3_findRoom_X3 tyX3 tyX3_ok nmX3 hown hK hM hS mS4_4 rfl 2 (by decide) (by decide +kernel) rfl (tyX3_ok 2 (by decide)) rfl rfl (Nat.le_of_ble_eq_true rfl) dX3_findRoom_67 (fun H locs hM hz hS => ?_)
          have hM : mP E A g (mu (mS4 E g M t) 4 (.inr (4, [.ref (g 5), .ref (g 6), .int (t.1 ||| (1 <<< ((nI i) &&& 31)))]))) H := hM
          rw [mS4_p4] at hM
          refine lv_aload_n hx hb dX3_findRoom_70 rfl (lv_at hl 2 rfl) ?_
          refine m_get hx hb hts in_X3_findRoom_X3 hown hK hM mS4_4 rfl 1 (by decide) (by decide +kernel) rfl dX3_findRoom_71 ?_
          refine lv_iload_n hx hb dX3_findRoom_74 rfl (lv_at hl 1 rfl) ?_
          refine m_iald (v := t.2 i) hx hb hK hM mS4_6 (ix_ok (by omega)) (rd_ok (by omega) rfl) dX3_findRoom_75 ?_
          refine lv_istore (lv' := [(5, .int (t.2 i)), (4, .int (1 <<< ((nI i) &&& 31))), (3, .int (nI i)), (0, .ref (g 4)), (1, .int (nI u)), (2, .int 2)]) hx hb dX3_findRoom_76 hl (by decide) rfl (fun ls hl => ?_)
          refine lv_iload hx hb dX3_findRoom_78 (lv_at hl 0 rfl) ?_
          refine lv_iconst (v := (-1)) hx hb dX3_findRoom_80 (by decide) ?_
          refine lv_icmp_eq (tgt := 96) hx hb dX3_findRoom_81 (by decide) (fun c81 => ?_) (fun c81 => ?_)
          · refine lv_aload_n hx hb dX3_findRoom_96 rfl (lv_at hl 3 rfl) ?_
            refine m_get hx hb hts in_X3_findRoom_X3 hown hK hM mS4_4 rfl 1 (by decide) (by decide +kernel) rfl dX3_findRoom_97 ?_
            refine lv_iload_n hx hb dX3_findRoom_100 rfl (lv_at hl 2 rfl) ?_
            refine lv_iload_n hx hb dX3_findRoom_101 rfl (lv_at hl 4 rfl) ?_
            refine m_iast hx hb hK hM hS mS4_6 (ix_ok (by omega)) dX3_findRoom_102 (fun H locs hM hz hS => ?_)
            rw [mS4_p6] at hM
            refine lv_iconst (v := 1) hx hb dX3_findRoom_103 (by decide) ?_
            exact w_z hx hb hr hlocks dX3_findRoom_104 hS (Nat.le_of_ble_eq_true rfl) (Nat.le_of_ble_eq_true rfl) (by rw [← hkL, show 10 - i = (10 - (i + 1)) + 1 by omega, kL, if_neg c46, if_neg (fun q => q c56), if_pos c81]; rfl) (by rw [← hkL, show 10 - i = (10 - (i + 1)) + 1 by omega, kL, if_neg c46, if_neg (fun q => q c56), if_pos c81]; rw [nI_clamp (show i < 2 ^ 31 by omega)] at hM; exact hM)
          · obtain ⟨v9, hv8, hv9⟩ := (hHO i (by omega)).resolve_left c81
            rw [hv9] at hl
            refine lv_aload_n hx hb dX3_findRoom_84 rfl (lv_at hl 3 rfl) ?_
            refine lv_iload hx hb dX3_findRoom_85 (lv_at hl 0 rfl) ?_
            refine lv_iload_n hx hb dX3_findRoom_87 rfl (lv_at hl 5 rfl) ?_
            refine lv_iconst (v := 1) hx hb dX3_findRoom_88 (by decide) ?_
            refine lv_iadd hx hb dX3_findRoom_89 ?_
            rw [show ((2 : Int32) + 1) = 3 from by decide]
            refine m_wS 3 [.ref (g 4), .int (nI v9), .int 3] [] hx hb hml hown hts hK (c_find8 l E A g (mS4 E g M (t.1 ||| (1 <<< ((nI i) &&& 31)), t.2)) al (t.1 ||| (1 <<< ((nI i) &&& 31))) t.2 mS4_4 (mS4_5.trans h5) mS4_6 hHO v9 hv8) gX3_findRoom_X3_findRoom rfl rfl rfl (by decide +kernel) rfl ⟨Nat.le_of_ble_eq_true rfl, Nat.le_of_ble_eq_true rfl⟩ hM hl.1 (Nat.le_of_ble_eq_true rfl) ⟨Nat.le_of_ble_eq_true rfl, Nat.le_of_ble_eq_true rfl⟩ rfl dX3_findRoom_90 hS (fun _ _ h => h) (fun _ h => h) (fun H locs hQ hz hk hS => ?_)
            refine W.eq (g2 := F0 m 93 ls [.int (bI (kF al 8 v9 (t.1 ||| (1 <<< ((nI i) &&& 31)), t.2)).1)]) rfl ?_
            rw [mS4_2] at hQ
            obtain ⟨b9, t9, hr9⟩ : ∃ b t', kF al 8 v9 (t.1 ||| (1 <<< ((nI i) &&& 31)), t.2) = (b, t') := ⟨_, _, rfl⟩
            have hHO9 := kF_ok al 8 v9 (t.1 ||| (1 <<< ((nI i) &&& 31)), t.2) hv8 hHO
            rw [hr9] at hQ hHO9 ⊢
            have hM : mP E A g (mS4 E g M t9) H := hQ
            refine W.eq (g2 := F0 m 93 ls [.int (bI b9)]) rfl ?_
            refine lv_if_eq (tgt := 105) hx hb dX3_findRoom_93 (by decide) (fun c93 => ?_) (fun c93 => ?_)
            · have c93 := bI_f c93
              subst c93
              refine lv_iinc (v := nI (i + 1)) (lv' := [(3, .int (nI (i + 1))), (5, .int (nI v9)), (4, .int (1 <<< ((nI i) &&& 31))), (0, .ref (g 4)), (1, .int (nI u)), (2, .int 2)]) hx hb dX3_findRoom_105 hl (k := 2) rfl (m_inc _) (by decide) rfl (fun ls hl => ?_)
              refine lv_goto (tgt := 23) hx hb dX3_findRoom_108 (by decide) ?_
              exact ih23 (i + 1) (by omega) _ _ t9 ⟨hM, hHO9, by rw [show 10 - i = (10 - (i + 1)) + 1 by omega, kL, if_neg c46, if_neg (fun q => q c56), if_neg c81, hv9, nI_clamp (show v9 < 2 ^ 31 by omega), hr9] at hkL; exact hkL⟩ hS ls (lv_sub hl [0, 3, 4, 5] rfl)
            · have c93 := bI_t c93
              subst c93
              refine lv_aload_n hx hb dX3_findRoom_96 rfl (lv_at hl 3 rfl) ?_
              refine m_get hx hb hts in_X3_findRoom_X3 hown hK hM mS4_4 rfl 1 (by decide) (by decide +kernel) rfl dX3_findRoom_97 ?_
              refine lv_iload_n hx hb dX3_findRoom_100 rfl (lv_at hl 2 rfl) ?_
              refine lv_iload_n hx hb dX3_findRoom_101 rfl (lv_at hl 4 rfl) ?_
              refine m_iast hx hb hK hM hS mS4_6 (ix_ok (by omega)) dX3_findRoom_102 (fun H locs hM hz hS => ?_)
              rw [mS4_p6] at hM
              refine lv_iconst (v := 1) hx hb dX3_findRoom_103 (by decide) ?_
              exact w_z hx hb hr hlocks dX3_findRoom_104 hS (Nat.le_of_ble_eq_true rfl) (Nat.le_of_ble_eq_true rfl) (by rw [← hkL, show 10 - i = (10 - (i + 1)) + 1 by omega, kL, if_neg c46, if_neg (fun q => q c56), if_neg c81, hv9, nI_clamp (show v9 < 2 ^ 31 by omega), hr9]; rfl) (by rw [← hkL, show 10 - i = (10 - (i + 1)) + 1 by omega, kL, if_neg c46, if_neg (fun q => q c56), if_neg c81, hv9, nI_clamp (show v9 < 2 ^ 31 by omega), hr9]; rw [nI_clamp (show i < 2 ^ 31 by omega)] at hM; exact hM)
  exact lp23 (10) 0 (by omega) _ _ (sa, ho) ⟨by rw [mS4_id h4 h6]; exact hM, hho, rfl⟩ hS ls (lv_sub hl [0, 1, 2, 3] rfl)
set_option maxHeartbeats 4000000 in
set_option maxRecDepth 100000 in
theorem c_find10 (l : Launch) (E : gE) (A : Nat → Prop) (g : Nat → Nat) (M : gM) (al : Nat → Int32) (sa : Int32) (ho : Nat → Int32) (h4 : M 4 = some (.inr (4, [.ref (g 5), .ref (g 6), .int sa]))) (h5 : M 5 = some (.inl (E.2.1, 12, .inl al))) (h6 : M 6 = some (.inl (E.2.1, 10, .inl ho))) (hho : HO ho) (u : Nat) (hu : u < 12) : Met l yX3_findRoom wsX3_findRoom ({ frames := 10, cells := 0, slots := 0, locals := 250 } : Room) (Pm E [.ref (g 4), .int (nI u), .int 1] (mP E A g M)) (QW (some (.int (bI (kF al 10 u (sa, ho)).1))) (mP E A g (mS4 E g M (kF al 10 u (sa, ho)).2)) A) 0 0 A := by
  refine m_entry (by decide) rfl (Nat.le_of_ble_eq_true rfl) ?_
  intro p e s m args below meth c hx hb hr hml hts hown hlocks hin hM hK ls hl
  have hl : lv_has ls 6 [(0, .ref (g 4)), (1, .int (nI u)), (2, .int 1)] := hl
  have hown : s.vm.findClass RX3 = some m.cls := hown
  have hS : va_S A s.heap s.heap [] := va_S.rf
  skip
  refine lv_iload_n hx hb dX3_findRoom_0 rfl (lv_at hl 1 rfl) ?_
  refine lv_if_lt (tgt := 19) hx hb dX3_findRoom_1 (by decide) (fun c9 => absurd c9 (nI_pos (by omega))) (fun c1 => ?_)
  refine lv_iload_n hx hb dX3_findRoom_4 rfl (lv_at hl 1 rfl) ?_
  refine lv_aload_n hx hb dX3_findRoom_5 rfl (lv_at hl 0 rfl) ?_
  refine m_get hx hb hts in_X3_findRoom_X3 hown hK hM h4 rfl 0 (by decide) (by decide +kernel) rfl dX3_findRoom_6 ?_
  refine m_alen (v := nI 12) hx hb hK hM h5 rfl dX3_findRoom_9 ?_
  refine lv_icmp_ge (tgt := 19) hx hb dX3_findRoom_10 (by decide) (fun c9 => absurd c9 (nI_ge hu (by decide))) (fun c10 => ?_)
  refine lv_iload_n hx hb dX3_findRoom_13 rfl (lv_at hl 2 rfl) ?_
  refine lv_bipush (v := 10) hx hb dX3_findRoom_14 (by decide) ?_
  refine lv_icmp_le (tgt := 21) hx hb dX3_findRoom_16 (by decide) (fun c9 => ?_) (fun c9 => absurd c9 (by decide))
  refine lv_iconst (v := 0) hx hb dX3_findRoom_21 (by decide) ?_
  refine lv_istore_n (lv' := [(3, .int 0), (0, .ref (g 4)), (1, .int (nI u)), (2, .int 1)]) hx hb dX3_findRoom_22 rfl hl (by decide) rfl (fun ls hl => ?_)
  have lp23 : ∀ (n23 i : Nat), n23 + i = 10 → ∀ (H : Heap) (locs : List Loc) (t : gK), (mP E A g (mS4 E g M t) H ∧ HO t.2 ∧ kL (kF al 9) (al u) u (10 - i) i t = kF al 10 u (sa, ho)) → va_S A s.heap H locs → ∀ ls : Array Slot, lv_has ls 6 [(3, .int (nI i)), (0, .ref (g 4)), (1, .int (nI u)), (2, .int 1)] → W p l e ({ frames := 10, cells := 0, slots := 0, locals := 250 } : Room) s m args below meth c H locs 0 0 (MQ below (QW (some (.int (bI (kF al 10 u (sa, ho)).1))) (mP E A g (mS4 E g M (kF al 10 u (sa, ho)).2)) A) args s 0 0 A) (F0 m 23 ls []) := by
    intro n23
    induction n23 with
    | zero =>
      intro i hi23 H locs t hI hS ls hl
      obtain ⟨hM, hHO, hkL⟩ := hI
      obtain rfl : 10 = i := by omega
      refine lv_iload_n hx hb dX3_findRoom_23 rfl (lv_at hl 0 rfl) ?_
      refine lv_aload_n hx hb dX3_findRoom_24 rfl (lv_at hl 1 rfl) ?_
      refine m_get hx hb hts in_X3_findRoom_X3 hown hK hM mS4_4 rfl 1 (by decide) (by decide +kernel) rfl dX3_findRoom_25 ?_
      refine m_alen (v := nI 10) hx hb hK hM mS4_6 rfl dX3_findRoom_28 ?_
      refine lv_icmp_ge (tgt := 111) hx hb dX3_findRoom_29 (by decide) (fun c29 => ?_) (fun c9 => absurd (Int32.le_refl _) c9)
      refine lv_iconst (v := 0) hx hb dX3_findRoom_111 (by decide) ?_
      exact w_z hx hb hr hlocks dX3_findRoom_112 hS (Nat.le_of_ble_eq_true rfl) (Nat.le_of_ble_eq_true rfl) (by rw [← hkL]; rfl) (by rw [← hkL]; exact hM)
    | succ n23 ih23 =>
      intro i hi23 H locs t hI hS ls hl
      obtain ⟨hM, hHO, hkL⟩ := hI
      have hlt23 : i < 10 := by omega
      refine lv_iload_n hx hb dX3_findRoom_23 rfl (lv_at hl 0 rfl) ?_
      refine lv_aload_n hx hb dX3_findRoom_24 rfl (lv_at hl 1 rfl) ?_
      refine m_get hx hb hts in_X3_findRoom_X3 hown hK hM mS4_4 rfl 1 (by decide) (by decide +kernel) rfl dX3_findRoom_25 ?_
      refine m_alen (v := nI 10) hx hb hK hM mS4_6 rfl dX3_findRoom_28 ?_
      refine lv_icmp_ge (tgt := 111) hx hb dX3_findRoom_29 (by decide) (fun c9 => absurd c9 (nI_ge (b := 10) hlt23 (by omega))) (fun c29 => ?_)
      refine lv_iconst (v := 1) hx hb dX3_findRoom_32 (by decide) ?_
      refine lv_iload_n hx hb dX3_findRoom_33 rfl (lv_at hl 0 rfl) ?_
      refine lv_ishl hx hb dX3_findRoom_34 ?_
      refine lv_istore (lv' := [(4, .int (1 <<< ((nI i) &&& 31))), (3, .int (nI i)), (0, .ref (g 4)), (1, .int (nI u)), (2, .int 1)]) hx hb dX3_findRoom_35 hl (by decide) rfl (fun ls hl => ?_)
      refine lv_aload_n hx hb dX3_findRoom_37 rfl (lv_at hl 2 rfl) ?_
      refine m_get hx hb hts in_X3_findRoom_X3 hown hK hM mS4_4 rfl 0 (by decide) (by decide +kernel) rfl dX3_findRoom_38 ?_
      refine lv_iload_n hx hb dX3_findRoom_41 rfl (lv_at hl 3 rfl) ?_
      refine m_iald (v := al u) hx hb hK hM (mS4_5.trans h5) (ix_ok (by omega)) (rd_ok (by omega) rfl) dX3_findRoom_42 ?_
      refine lv_iload hx hb dX3_findRoom_43 (lv_at hl 0 rfl) ?_
      refine lv_iand hx hb dX3_findRoom_45 ?_
      refine lv_if_eq (tgt := 105) hx hb dX3_findRoom_46 (by decide) (fun c46 => ?_) (fun c46 => ?_)
      · refine lv_iinc (v := nI (i + 1)) (lv' := [(3, .int (nI (i + 1))), (4, .int (1 <<< ((nI i) &&& 31))), (0, .ref (g 4)), (1, .int (nI u)), (2, .int 1)]) hx hb dX3_findRoom_105 hl (k := 1) rfl (m_inc _) (by decide) rfl (fun ls hl => ?_)
        refine lv_goto (tgt := 23) hx hb dX3_findRoom_108 (by decide) ?_
        exact ih23 (i + 1) (by omega) _ _ t ⟨hM, hHO, by rw [show 10 - i = (10 - (i + 1)) + 1 by omega, kL, if_pos c46] at hkL; exact hkL⟩ hS ls (lv_sub hl [0, 2, 3, 4] rfl)
      · refine lv_aload_n hx hb dX3_findRoom_49 rfl (lv_at hl 2 rfl) ?_
        refine m_get hx hb hts in_X3_findRoom_X3 hown hK hM mS4_4 rfl 2 (by decide) (by decide +kernel) rfl dX3_findRoom_50 ?_
        refine lv_iload hx hb dX3_findRoom_53 (lv_at hl 0 rfl) ?_
        refine lv_iand hx hb dX3_findRoom_55 ?_
        refine lv_if_ne (tgt := 105) hx hb dX3_findRoom_56 (by decide) (fun c56 => ?_) (fun c56 => ?_)
        · refine lv_iinc (v := nI (i + 1)) (lv' := [(3, .int (nI (i + 1))), (4, .int (1 <<< ((nI i) &&& 31))), (0, .ref (g 4)), (1, .int (nI u)), (2, .int 1)]) hx hb dX3_findRoom_105 hl (k := 1) rfl (m_inc _) (by decide) rfl (fun ls hl => ?_)
          refine lv_goto (tgt := 23) hx hb dX3_findRoom_108 (by decide) ?_
          exact ih23 (i + 1) (by omega) _ _ t ⟨hM, hHO, by rw [show 10 - i = (10 - (i + 1)) + 1 by omega, kL, if_neg c46, if_pos c56] at hkL; exact hkL⟩ hS ls (lv_sub hl [0, 2, 3, 4] rfl)
        · refine lv_aload_n hx hb dX3_findRoom_59 rfl (lv_at hl 2 rfl) ?_
          refine lv_dup hx hb dX3_findRoom_60 rfl ?_
          refine m_get hx hb hts in_X3_findRoom_X3 hown hK hM mS4_4 rfl 2 (by decide) (by decide +kernel) rfl dX3_findRoom_61 ?_
          refine lv_iload hx hb dX3_findRoom_64 (lv_at hl 0 rfl) ?_
          refine lv_ior hx hb dX3_findRoom_66 ?_
          refine m_put hx hb hts in_X3_findRoom_X3 tyX3 tyX3_ok nmX3 hown hK hM hS mS4_4 rfl 2 (by decide) (by decide +kernel) rfl (tyX3_ok 2 (by decide)) rfl rfl (Nat.le_of_ble_eq_true rfl) dX3_findRoom_67 (fun H locs hM hz hS => ?_)
          have hM : mP E A g (mu (mS4 E g M t) 4 (.inr (4, [.ref (g 5), .ref (g 6), .int (t.1 ||| (1 <<< ((nI i) &&& 31)))]))) H := hM
          rw [mS4_p4] at hM
          refine lv_aload_n hx hb dX3_findRoom_70 rfl (lv_at hl 2 rfl) ?_
          refine m_get hx hb hts in_X3_findRoom_X3 hown hK hM mS4_4 rfl 1 (by decide) (by decide +kernel) rfl dX3_findRoom_71 ?_
          refine lv_iload_n hx hb dX3_findRoom_74 rfl (lv_at hl 1 rfl) ?_
          refine m_iald (v := t.2 i) hx hb hK hM mS4_6 (ix_ok (by omega)) (rd_ok (by omega) rfl) dX3_findRoom_75 ?_
          refine lv_istore (lv' := [(5, .int (t.2 i)), (4, .int (1 <<< ((nI i) &&& 31))), (3, .int (nI i)), (0, .ref (g 4)), (1, .int (nI u)), (2, .int 1)]) hx hb dX3_findRoom_76 hl (by decide) rfl (fun ls hl => ?_)
          refine lv_iload hx hb dX3_findRoom_78 (lv_at hl 0 rfl) ?_
          refine lv_iconst (v := (-1)) hx hb dX3_findRoom_80 (by decide) ?_
          refine lv_icmp_eq (tgt := 96) hx hb dX3_findRoom_81 (by decide) (fun c81 => ?_) (fun c81 => ?_)
          · refine lv_aload_n hx hb dX3_findRoom_96 rfl (lv_at hl 3 rfl) ?_
            refine m_get hx hb hts in_X3_findRoom_X3 hown hK hM mS4_4 rfl 1 (by decide) (by decide +kernel) rfl dX3_findRoom_97 ?_
            refine lv_iload_n hx hb dX3_findRoom_100 rfl (lv_at hl 2 rfl) ?_
            refine lv_iload_n hx hb dX3_findRoom_101 rfl (lv_at hl 4 rfl) ?_
            refine m_iast hx hb hK hM hS mS4_6 (ix_ok (by omega)) dX3_findRoom_102 (fun H locs hM hz hS => ?_)
            rw [mS4_p6] at hM
            refine lv_iconst (v := 1) hx hb dX3_findRoom_103 (by decide) ?_
            exact w_z hx hb hr hlocks dX3_findRoom_104 hS (Nat.le_of_ble_eq_true rfl) (Nat.le_of_ble_eq_true rfl) (by rw [← hkL, show 10 - i = (10 - (i + 1)) + 1 by omega, kL, if_neg c46, if_neg (fun q => q c56), if_pos c81]; rfl) (by rw [← hkL, show 10 - i = (10 - (i + 1)) + 1 by omega, kL, if_neg c46, if_neg (fun q => q c56), if_pos c81]; rw [nI_clamp (show i < 2 ^ 31 by omega)] at hM; exact hM)
          · obtain ⟨v9, hv8, hv9⟩ := (hHO i (by omega)).resolve_left c81
            rw [hv9] at hl
            refine lv_aload_n hx hb dX3_findRoom_84 rfl (lv_at hl 3 rfl) ?_
            refine lv_iload hx hb dX3_findRoom_85 (lv_at hl 0 rfl) ?_
            refine lv_iload_n hx hb dX3_findRoom_87 rfl (lv_at hl 5 rfl) ?_
            refine lv_iconst (v := 1) hx hb dX3_findRoom_88 (by decide) ?_
            refine lv_iadd hx hb dX3_findRoom_89 ?_
            rw [show ((1 : Int32) + 1) = 2 from by decide]
            refine m_wS 3 [.ref (g 4), .int (nI v9), .int 2] [] hx hb hml hown hts hK (c_find9 l E A g (mS4 E g M (t.1 ||| (1 <<< ((nI i) &&& 31)), t.2)) al (t.1 ||| (1 <<< ((nI i) &&& 31))) t.2 mS4_4 (mS4_5.trans h5) mS4_6 hHO v9 hv8) gX3_findRoom_X3_findRoom rfl rfl rfl (by decide +kernel) rfl ⟨Nat.le_of_ble_eq_true rfl, Nat.le_of_ble_eq_true rfl⟩ hM hl.1 (Nat.le_of_ble_eq_true rfl) ⟨Nat.le_of_ble_eq_true rfl, Nat.le_of_ble_eq_true rfl⟩ rfl dX3_findRoom_90 hS (fun _ _ h => h) (fun _ h => h) (fun H locs hQ hz hk hS => ?_)
            refine W.eq (g2 := F0 m 93 ls [.int (bI (kF al 9 v9 (t.1 ||| (1 <<< ((nI i) &&& 31)), t.2)).1)]) rfl ?_
            rw [mS4_2] at hQ
            obtain ⟨b9, t9, hr9⟩ : ∃ b t', kF al 9 v9 (t.1 ||| (1 <<< ((nI i) &&& 31)), t.2) = (b, t') := ⟨_, _, rfl⟩
            have hHO9 := kF_ok al 9 v9 (t.1 ||| (1 <<< ((nI i) &&& 31)), t.2) hv8 hHO
            rw [hr9] at hQ hHO9 ⊢
            have hM : mP E A g (mS4 E g M t9) H := hQ
            refine W.eq (g2 := F0 m 93 ls [.int (bI b9)]) rfl ?_
            refine lv_if_eq (tgt := 105) hx hb dX3_findRoom_93 (by decide) (fun c93 => ?_) (fun c93 => ?_)
            · have c93 := bI_f c93
              subst c93
              refine lv_iinc (v := nI (i + 1)) (lv' := [(3, .int (nI (i + 1))), (5, .int (nI v9)), (4, .int (1 <<< ((nI i) &&& 31))), (0, .ref (g 4)), (1, .int (nI u)), (2, .int 1)]) hx hb dX3_findRoom_105 hl (k := 2) rfl (m_inc _) (by decide) rfl (fun ls hl => ?_)
              refine lv_goto (tgt := 23) hx hb dX3_findRoom_108 (by decide) ?_
              exact ih23 (i + 1) (by omega) _ _ t9 ⟨hM, hHO9, by rw [show 10 - i = (10 - (i + 1)) + 1 by omega, kL, if_neg c46, if_neg (fun q => q c56), if_neg c81, hv9, nI_clamp (show v9 < 2 ^ 31 by omega), hr9] at hkL; exact hkL⟩ hS ls (lv_sub hl [0, 3, 4, 5] rfl)
            · have c93 := bI_t c93
              subst c93
              refine lv_aload_n hx hb dX3_findRoom_96 rfl (lv_at hl 3 rfl) ?_
              refine m_get hx hb hts in_X3_findRoom_X3 hown hK hM mS4_4 rfl 1 (by decide) (by decide +kernel) rfl dX3_findRoom_97 ?_
              refine lv_iload_n hx hb dX3_findRoom_100 rfl (lv_at hl 2 rfl) ?_
              refine lv_iload_n hx hb dX3_findRoom_101 rfl (lv_at hl 4 rfl) ?_
              refine m_iast hx hb hK hM hS mS4_6 (ix_ok (by omega)) dX3_findRoom_102 (fun H locs hM hz hS => ?_)
              rw [mS4_p6] at hM
              refine lv_iconst (v := 1) hx hb dX3_findRoom_103 (by decide) ?_
              exact w_z hx hb hr hlocks dX3_findRoom_104 hS (Nat.le_of_ble_eq_true rfl) (Nat.le_of_ble_eq_true rfl) (by rw [← hkL, show 10 - i = (10 - (i + 1)) + 1 by omega, kL, if_neg c46, if_neg (fun q => q c56), if_neg c81, hv9, nI_clamp (show v9 < 2 ^ 31 by omega), hr9]; rfl) (by rw [← hkL, show 10 - i = (10 - (i + 1)) + 1 by omega, kL, if_neg c46, if_neg (fun q => q c56), if_neg c81, hv9, nI_clamp (show v9 < 2 ^ 31 by omega), hr9]; rw [nI_clamp (show i < 2 ^ 31 by omega)] at hM; exact hM)
  exact lp23 (10) 0 (by omega) _ _ (sa, ho) ⟨by rw [mS4_id h4 h6]; exact hM, hho, rfl⟩ hS ls (lv_sub hl [0, 1, 2, 3] rfl)
set_option maxHeartbeats 4000000 in
set_option maxRecDepth 100000 in
theorem c_find11 (l : Launch) (E : gE) (A : Nat → Prop) (g : Nat → Nat) (M : gM) (al : Nat → Int32) (sa : Int32) (ho : Nat → Int32) (h4 : M 4 = some (.inr (4, [.ref (g 5), .ref (g 6), .int sa]))) (h5 : M 5 = some (.inl (E.2.1, 12, .inl al))) (h6 : M 6 = some (.inl (E.2.1, 10, .inl ho))) (hho : HO ho) (u : Nat) (hu : u < 12) : Met l yX3_findRoom wsX3_findRoom ({ frames := 11, cells := 0, slots := 0, locals := 275 } : Room) (Pm E [.ref (g 4), .int (nI u), .int 0] (mP E A g M)) (QW (some (.int (bI (kF al 11 u (sa, ho)).1))) (mP E A g (mS4 E g M (kF al 11 u (sa, ho)).2)) A) 0 0 A := by
  refine m_entry (by decide) rfl (Nat.le_of_ble_eq_true rfl) ?_
  intro p e s m args below meth c hx hb hr hml hts hown hlocks hin hM hK ls hl
  have hl : lv_has ls 6 [(0, .ref (g 4)), (1, .int (nI u)), (2, .int 0)] := hl
  have hown : s.vm.findClass RX3 = some m.cls := hown
  have hS : va_S A s.heap s.heap [] := va_S.rf
  skip
  refine lv_iload_n hx hb dX3_findRoom_0 rfl (lv_at hl 1 rfl) ?_
  refine lv_if_lt (tgt := 19) hx hb dX3_findRoom_1 (by decide) (fun c9 => absurd c9 (nI_pos (by omega))) (fun c1 => ?_)
  refine lv_iload_n hx hb dX3_findRoom_4 rfl (lv_at hl 1 rfl) ?_
  refine lv_aload_n hx hb dX3_findRoom_5 rfl (lv_at hl 0 rfl) ?_
  refine m_get hx hb hts in_X3_findRoom_X3 hown hK hM h4 rfl 0 (by decide) (by decide +kernel) rfl dX3_findRoom_6 ?_
  refine m_alen (v := nI 12) hx hb hK hM h5 rfl dX3_findRoom_9 ?_
  refine lv_icmp_ge (tgt := 19) hx hb dX3_findRoom_10 (by decide) (fun c9 => absurd c9 (nI_ge hu (by decide))) (fun c10 => ?_)
  refine lv_iload_n hx hb dX3_findRoom_13 rfl (lv_at hl 2 rfl) ?_
  refine lv_bipush (v := 10) hx hb dX3_findRoom_14 (by decide) ?_
  refine lv_icmp_le (tgt := 21) hx hb dX3_findRoom_16 (by decide) (fun c9 => ?_) (fun c9 => absurd c9 (by decide))
  refine lv_iconst (v := 0) hx hb dX3_findRoom_21 (by decide) ?_
  refine lv_istore_n (lv' := [(3, .int 0), (0, .ref (g 4)), (1, .int (nI u)), (2, .int 0)]) hx hb dX3_findRoom_22 rfl hl (by decide) rfl (fun ls hl => ?_)
  have lp23 : ∀ (n23 i : Nat), n23 + i = 10 → ∀ (H : Heap) (locs : List Loc) (t : gK), (mP E A g (mS4 E g M t) H ∧ HO t.2 ∧ kL (kF al 10) (al u) u (10 - i) i t = kF al 11 u (sa, ho)) → va_S A s.heap H locs → ∀ ls : Array Slot, lv_has ls 6 [(3, .int (nI i)), (0, .ref (g 4)), (1, .int (nI u)), (2, .int 0)] → W p l e ({ frames := 11, cells := 0, slots := 0, locals := 275 } : Room) s m args below meth c H locs 0 0 (MQ below (QW (some (.int (bI (kF al 11 u (sa, ho)).1))) (mP E A g (mS4 E g M (kF al 11 u (sa, ho)).2)) A) args s 0 0 A) (F0 m 23 ls []) := by
    intro n23
    induction n23 with
    | zero =>
      intro i hi23 H locs t hI hS ls hl
      obtain ⟨hM, hHO, hkL⟩ := hI
      obtain rfl : 10 = i := by omega
      refine lv_iload_n hx hb dX3_findRoom_23 rfl (lv_at hl 0 rfl) ?_
      refine lv_aload_n hx hb dX3_findRoom_24 rfl (lv_at hl 1 rfl) ?_
      refine m_get hx hb hts in_X3_findRoom_X3 hown hK hM mS4_4 rfl 1 (by decide) (by decide +kernel) rfl dX3_findRoom_25 ?_
      refine m_alen (v := nI 10) hx hb hK hM mS4_6 rfl dX3_findRoom_28 ?_
      refine lv_icmp_ge (tgt := 111) hx hb dX3_findRoom_29 (by decide) (fun c29 => ?_) (fun c9 => absurd (Int32.le_refl _) c9)
      refine lv_iconst (v := 0) hx hb dX3_findRoom_111 (by decide) ?_
      exact w_z hx hb hr hlocks dX3_findRoom_112 hS (Nat.le_of_ble_eq_true rfl) (Nat.le_of_ble_eq_true rfl) (by rw [← hkL]; rfl) (by rw [← hkL]; exact hM)
    | succ n23 ih23 =>
      intro i hi23 H locs t hI hS ls hl
      obtain ⟨hM, hHO, hkL⟩ := hI
      have hlt23 : i < 10 := by omega
      refine lv_iload_n hx hb dX3_findRoom_23 rfl (lv_at hl 0 rfl) ?_
      refine lv_aload_n hx hb dX3_findRoom_24 rfl (lv_at hl 1 rfl) ?_
      refine m_get hx hb hts in_X3_findRoom_X3 hown hK hM mS4_4 rfl 1 (by decide) (by decide +kernel) rfl dX3_findRoom_25 ?_
      refine m_alen (v := nI 10) hx hb hK hM mS4_6 rfl dX3_findRoom_28 ?_
      refine lv_icmp_ge (tgt := 111) hx hb dX3_findRoom_29 (by decide) (fun c9 => absurd c9 (nI_ge (b := 10) hlt23 (by omega))) (fun c29 => ?_)
      refine lv_iconst (v := 1) hx hb dX3_findRoom_32 (by decide) ?_
      refine lv_iload_n hx hb dX3_findRoom_33 rfl (lv_at hl 0 rfl) ?_
      refine lv_ishl hx hb dX3_findRoom_34 ?_
      refine lv_istore (lv' := [(4, .int (1 <<< ((nI i) &&& 31))), (3, .int (nI i)), (0, .ref (g 4)), (1, .int (nI u)), (2, .int 0)]) hx hb dX3_findRoom_35 hl (by decide) rfl (fun ls hl => ?_)
      refine lv_aload_n hx hb dX3_findRoom_37 rfl (lv_at hl 2 rfl) ?_
      refine m_get hx hb hts in_X3_findRoom_X3 hown hK hM mS4_4 rfl 0 (by decide) (by decide +kernel) rfl dX3_findRoom_38 ?_
      refine lv_iload_n hx hb dX3_findRoom_41 rfl (lv_at hl 3 rfl) ?_
      refine m_iald (v := al u) hx hb hK hM (mS4_5.trans h5) (ix_ok (by omega)) (rd_ok (by omega) rfl) dX3_findRoom_42 ?_
      refine lv_iload hx hb dX3_findRoom_43 (lv_at hl 0 rfl) ?_
      refine lv_iand hx hb dX3_findRoom_45 ?_
      refine lv_if_eq (tgt := 105) hx hb dX3_findRoom_46 (by decide) (fun c46 => ?_) (fun c46 => ?_)
      · refine lv_iinc (v := nI (i + 1)) (lv' := [(3, .int (nI (i + 1))), (4, .int (1 <<< ((nI i) &&& 31))), (0, .ref (g 4)), (1, .int (nI u)), (2, .int 0)]) hx hb dX3_findRoom_105 hl (k := 1) rfl (m_inc _) (by decide) rfl (fun ls hl => ?_)
        refine lv_goto (tgt := 23) hx hb dX3_findRoom_108 (by decide) ?_
        exact ih23 (i + 1) (by omega) _ _ t ⟨hM, hHO, by rw [show 10 - i = (10 - (i + 1)) + 1 by omega, kL, if_pos c46] at hkL; exact hkL⟩ hS ls (lv_sub hl [0, 2, 3, 4] rfl)
      · refine lv_aload_n hx hb dX3_findRoom_49 rfl (lv_at hl 2 rfl) ?_
        refine m_get hx hb hts in_X3_findRoom_X3 hown hK hM mS4_4 rfl 2 (by decide) (by decide +kernel) rfl dX3_findRoom_50 ?_
        refine lv_iload hx hb dX3_findRoom_53 (lv_at hl 0 rfl) ?_
        refine lv_iand hx hb dX3_findRoom_55 ?_
        refine lv_if_ne (tgt := 105) hx hb dX3_findRoom_56 (by decide) (fun c56 => ?_) (fun c56 => ?_)
        · refine lv_iinc (v := nI (i + 1)) (lv' := [(3, .int (nI (i + 1))), (4, .int (1 <<< ((nI i) &&& 31))), (0, .ref (g 4)), (1, .int (nI u)), (2, .int 0)]) hx hb dX3_findRoom_105 hl (k := 1) rfl (m_inc _) (by decide) rfl (fun ls hl => ?_)
          refine lv_goto (tgt := 23) hx hb dX3_findRoom_108 (by decide) ?_
          exact ih23 (i + 1) (by omega) _ _ t ⟨hM, hHO, by rw [show 10 - i = (10 - (i + 1)) + 1 by omega, kL, if_neg c46, if_pos c56] at hkL; exact hkL⟩ hS ls (lv_sub hl [0, 2, 3, 4] rfl)
        · refine lv_aload_n hx hb dX3_findRoom_59 rfl (lv_at hl 2 rfl) ?_
          refine lv_dup hx hb dX3_findRoom_60 rfl ?_
          refine m_get hx hb hts in_X3_findRoom_X3 hown hK hM mS4_4 rfl 2 (by decide) (by decide +kernel) rfl dX3_findRoom_61 ?_
          refine lv_iload hx hb dX3_findRoom_64 (lv_at hl 0 rfl) ?_
          refine lv_ior hx hb dX3_findRoom_66 ?_
          refine m_put hx hb hts in_X3_findRoom_X3 tyX3 tyX3_ok nmX3 hown hK hM hS mS4_4 rfl 2 (by decide) (by decide +kernel) rfl (tyX3_ok 2 (by decide)) rfl rfl (Nat.le_of_ble_eq_true rfl) dX3_findRoom_67 (fun H locs hM hz hS => ?_)
          have hM : mP E A g (mu (mS4 E g M t) 4 (.inr (4, [.ref (g 5), .ref (g 6), .int (t.1 ||| (1 <<< ((nI i) &&& 31)))]))) H := hM
          rw [mS4_p4] at hM
          refine lv_aload_n hx hb dX3_findRoom_70 rfl (lv_at hl 2 rfl) ?_
          refine m_get hx hb hts in_X3_findRoom_X3 hown hK hM mS4_4 rfl 1 (by decide) (by decide +kernel) rfl dX3_findRoom_71 ?_
          refine lv_iload_n hx hb dX3_findRoom_74 rfl (lv_at hl 1 rfl) ?_
          refine m_iald (v := t.2 i) hx hb hK hM mS4_6 (ix_ok (by omega)) (rd_ok (by omega) rfl) dX3_findRoom_75 ?_
          refine lv_istore (lv' := [(5, .int (t.2 i)), (4, .int (1 <<< ((nI i) &&& 31))), (3, .int (nI i)), (0, .ref (g 4)), (1, .int (nI u)), (2, .int 0)]) hx hb dX3_findRoom_76 hl (by decide) rfl (fun ls hl => ?_)
          refine lv_iload hx hb dX3_findRoom_78 (lv_at hl 0 rfl) ?_
          refine lv_iconst (v := (-1)) hx hb dX3_findRoom_80 (by decide) ?_
          refine lv_icmp_eq (tgt := 96) hx hb dX3_findRoom_81 (by decide) (fun c81 => ?_) (fun c81 => ?_)
          · refine lv_aload_n hx hb dX3_findRoom_96 rfl (lv_at hl 3 rfl) ?_
            refine m_get hx hb hts in_X3_findRoom_X3 hown hK hM mS4_4 rfl 1 (by decide) (by decide +kernel) rfl dX3_findRoom_97 ?_
            refine lv_iload_n hx hb dX3_findRoom_100 rfl (lv_at hl 2 rfl) ?_
            refine lv_iload_n hx hb dX3_findRoom_101 rfl (lv_at hl 4 rfl) ?_
            refine m_iast hx hb hK hM hS mS4_6 (ix_ok (by omega)) dX3_findRoom_102 (fun H locs hM hz hS => ?_)
            rw [mS4_p6] at hM
            refine lv_iconst (v := 1) hx hb dX3_findRoom_103 (by decide) ?_
            exact w_z hx hb hr hlocks dX3_findRoom_104 hS (Nat.le_of_ble_eq_true rfl) (Nat.le_of_ble_eq_true rfl) (by rw [← hkL, show 10 - i = (10 - (i + 1)) + 1 by omega, kL, if_neg c46, if_neg (fun q => q c56), if_pos c81]; rfl) (by rw [← hkL, show 10 - i = (10 - (i + 1)) + 1 by omega, kL, if_neg c46, if_neg (fun q => q c56), if_pos c81]; rw [nI_clamp (show i < 2 ^ 31 by omega)] at hM; exact hM)
          · obtain ⟨v9, hv8, hv9⟩ := (hHO i (by omega)).resolve_left c81
            rw [hv9] at hl
            refine lv_aload_n hx hb dX3_findRoom_84 rfl (lv_at hl 3 rfl) ?_
            refine lv_iload hx hb dX3_findRoom_85 (lv_at hl 0 rfl) ?_
            refine lv_iload_n hx hb dX3_findRoom_87 rfl (lv_at hl 5 rfl) ?_
            refine lv_iconst (v := 1) hx hb dX3_findRoom_88 (by decide) ?_
            refine lv_iadd hx hb dX3_findRoom_89 ?_
            rw [show ((0 : Int32) + 1) = 1 from by decide]
            refine m_wS 3 [.ref (g 4), .int (nI v9), .int 1] [] hx hb hml hown hts hK (c_find10 l E A g (mS4 E g M (t.1 ||| (1 <<< ((nI i) &&& 31)), t.2)) al (t.1 ||| (1 <<< ((nI i) &&& 31))) t.2 mS4_4 (mS4_5.trans h5) mS4_6 hHO v9 hv8) gX3_findRoom_X3_findRoom rfl rfl rfl (by decide +kernel) rfl ⟨Nat.le_of_ble_eq_true rfl, Nat.le_of_ble_eq_true rfl⟩ hM hl.1 (Nat.le_of_ble_eq_true rfl) ⟨Nat.le_of_ble_eq_true rfl, Nat.le_of_ble_eq_true rfl⟩ rfl dX3_findRoom_90 hS (fun _ _ h => h) (fun _ h => h) (fun H locs hQ hz hk hS => ?_)
            refine W.eq (g2 := F0 m 93 ls [.int (bI (kF al 10 v9 (t.1 ||| (1 <<< ((nI i) &&& 31)), t.2)).1)]) rfl ?_
            rw [mS4_2] at hQ
            obtain ⟨b9, t9, hr9⟩ : ∃ b t', kF al 10 v9 (t.1 ||| (1 <<< ((nI i) &&& 31)), t.2) = (b, t') := ⟨_, _, rfl⟩
            have hHO9 := kF_ok al 10 v9 (t.1 ||| (1 <<< ((nI i) &&& 31)), t.2) hv8 hHO
            rw [hr9] at hQ hHO9 ⊢
            have hM : mP E A g (mS4 E g M t9) H := hQ
            refine W.eq (g2 := F0 m 93 ls [.int (bI b9)]) rfl ?_
            refine lv_if_eq (tgt := 105) hx hb dX3_findRoom_93 (by decide) (fun c93 => ?_) (fun c93 => ?_)
            · have c93 := bI_f c93
              subst c93
              refine lv_iinc (v := nI (i + 1)) (lv' := [(3, .int (nI (i + 1))), (5, .int (nI v9)), (4, .int (1 <<< ((nI i) &&& 31))), (0, .ref (g 4)), (1, .int (nI u)), (2, .int 0)]) hx hb dX3_findRoom_105 hl (k := 2) rfl (m_inc _) (by decide) rfl (fun ls hl => ?_)
              refine lv_goto (tgt := 23) hx hb dX3_findRoom_108 (by decide) ?_
              exact ih23 (i + 1) (by omega) _ _ t9 ⟨hM, hHO9, by rw [show 10 - i = (10 - (i + 1)) + 1 by omega, kL, if_neg c46, if_neg (fun q => q c56), if_neg c81, hv9, nI_clamp (show v9 < 2 ^ 31 by omega), hr9] at hkL; exact hkL⟩ hS ls (lv_sub hl [0, 3, 4, 5] rfl)
            · have c93 := bI_t c93
              subst c93
              refine lv_aload_n hx hb dX3_findRoom_96 rfl (lv_at hl 3 rfl) ?_
              refine m_get hx hb hts in_X3_findRoom_X3 hown hK hM mS4_4 rfl 1 (by decide) (by decide +kernel) rfl dX3_findRoom_97 ?_
              refine lv_iload_n hx hb dX3_findRoom_100 rfl (lv_at hl 2 rfl) ?_
              refine lv_iload_n hx hb dX3_findRoom_101 rfl (lv_at hl 4 rfl) ?_
              refine m_iast hx hb hK hM hS mS4_6 (ix_ok (by omega)) dX3_findRoom_102 (fun H locs hM hz hS => ?_)
              rw [mS4_p6] at hM
              refine lv_iconst (v := 1) hx hb dX3_findRoom_103 (by decide) ?_
              exact w_z hx hb hr hlocks dX3_findRoom_104 hS (Nat.le_of_ble_eq_true rfl) (Nat.le_of_ble_eq_true rfl) (by rw [← hkL, show 10 - i = (10 - (i + 1)) + 1 by omega, kL, if_neg c46, if_neg (fun q => q c56), if_neg c81, hv9, nI_clamp (show v9 < 2 ^ 31 by omega), hr9]; rfl) (by rw [← hkL, show 10 - i = (10 - (i + 1)) + 1 by omega, kL, if_neg c46, if_neg (fun q => q c56), if_neg c81, hv9, nI_clamp (show v9 < 2 ^ 31 by omega), hr9]; rw [nI_clamp (show i < 2 ^ 31 by omega)] at hM; exact hM)
  exact lp23 (10) 0 (by omega) _ _ (sa, ho) ⟨by rw [mS4_id h4 h6]; exact hM, hho, rfl⟩ hS ls (lv_sub hl [0, 1, 2, 3] rfl)
