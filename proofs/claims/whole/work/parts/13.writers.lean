theorem mu_mu {M : gM} {t : Nat} {a b : va_E} : mu (mu M t a) t b = mu M t b := by
  funext u
  by_cases h : u = t
  · subst h; rw [mu_s, mu_s]
  · rw [mu_n h, mu_n h, mu_n h]
theorem in_X1_writeBid_X1 : ∀ w ∈ u_ws RX1 TX1 7, w ∈ wsX1_writeBid := by decide +kernel
set_option maxHeartbeats 4000000 in
set_option maxRecDepth 100000 in
theorem c_writeBid (l : Launch) (E : gE) (A : Nat → Prop) (g : Nat → Nat) (M : gM) (tu : Nat) (ne co nv fo pr sl ba : Int32) (h : M tu = some (.inr (2, [.int ne, .int co, .int nv, .int fo, .int pr, .int sl, .int ba]))) (k x : Int32) : Met l yX1_writeBid wsX1_writeBid ({ frames := 0, cells := 0, slots := 0, locals := 0 } : Room) (Pm E [.ref (g tu), .int k, .int x] (mP E A g M)) (QW none (mP E A g (mu M tu (.inr (2, [.int ne, .int co, .int nv, .int k, .int x, .int sl, .int ba])))) A) 0 0 A := by
  refine m_entry (by decide) rfl (Nat.le_of_ble_eq_true rfl) ?_
  intro p e s m args below meth c hx hb hr hml hts hown hlocks hin hM hK ls hl
  have hl : lv_has ls 3 [(0, .ref (g tu)), (1, .int k), (2, .int x)] := hl
  have hown : s.vm.findClass RX1 = some m.cls := hown
  have hS : va_S A s.heap s.heap [] := va_S.rf
  skip
  refine lv_aload_n hx hb dX1_writeBid_0 rfl (lv_at hl 0 rfl) ?_
  refine lv_iload_n hx hb dX1_writeBid_1 rfl (lv_at hl 1 rfl) ?_
  refine m_put hx hb hts in_X1_writeBid_X1 tyX1 tyX1_ok nmX1 hown hK hM hS h rfl 3 (by decide) (by decide +kernel) rfl (tyX1_ok 3 (by decide)) rfl rfl (Nat.le_of_ble_eq_true rfl) dX1_writeBid_2 (fun H locs hM hz hS => ?_)
  have hm_1 : (mu M tu (.inr (2, [.int ne, .int co, .int nv, .int k, .int pr, .int sl, .int ba]))) tu = some (.inr (2, [.int ne, .int co, .int nv, .int k, .int pr, .int sl, .int ba])) := mu_s
  have hM : mP E A g (mu M tu (.inr (2, [.int ne, .int co, .int nv, .int k, .int pr, .int sl, .int ba]))) H := hM
  refine lv_aload_n hx hb dX1_writeBid_5 rfl (lv_at hl 0 rfl) ?_
  refine lv_iload_n hx hb dX1_writeBid_6 rfl (lv_at hl 2 rfl) ?_
  refine m_put hx hb hts in_X1_writeBid_X1 tyX1 tyX1_ok nmX1 hown hK hM hS hm_1 rfl 4 (by decide) (by decide +kernel) rfl (tyX1_ok 4 (by decide)) rfl rfl (Nat.le_of_ble_eq_true rfl) dX1_writeBid_7 (fun H locs hM hz hS => ?_)
  have hm_2 : (mu (mu M tu (.inr (2, [.int ne, .int co, .int nv, .int k, .int pr, .int sl, .int ba]))) tu (.inr (2, [.int ne, .int co, .int nv, .int k, .int x, .int sl, .int ba]))) tu = some (.inr (2, [.int ne, .int co, .int nv, .int k, .int x, .int sl, .int ba])) := mu_s
  have hM : mP E A g (mu (mu M tu (.inr (2, [.int ne, .int co, .int nv, .int k, .int pr, .int sl, .int ba]))) tu (.inr (2, [.int ne, .int co, .int nv, .int k, .int x, .int sl, .int ba]))) H := hM
  exact w_v hx hb hr hlocks dX1_writeBid_10 hS (Nat.le_of_ble_eq_true rfl) (Nat.le_of_ble_eq_true rfl) (by simpa only [mu_mu] using hM)
theorem in_X1_dropBid_X1 : ∀ w ∈ u_ws RX1 TX1 7, w ∈ wsX1_dropBid := by decide +kernel
set_option maxHeartbeats 4000000 in
set_option maxRecDepth 100000 in
theorem c_dropBid (l : Launch) (E : gE) (A : Nat → Prop) (g : Nat → Nat) (M : gM) (tu : Nat) (ne co nv fo pr sl ba : Int32) (h : M tu = some (.inr (2, [.int ne, .int co, .int nv, .int fo, .int pr, .int sl, .int ba]))) : Met l yX1_dropBid wsX1_dropBid ({ frames := 0, cells := 0, slots := 0, locals := 0 } : Room) (Pm E [.ref (g tu)] (mP E A g M)) (QW none (mP E A g (mu M tu (.inr (2, [.int ne, .int co, .int nv, .int (-1), .int 0, .int sl, .int ba])))) A) 0 0 A := by
  refine m_entry (by decide) rfl (Nat.le_of_ble_eq_true rfl) ?_
  intro p e s m args below meth c hx hb hr hml hts hown hlocks hin hM hK ls hl
  have hl : lv_has ls 1 [(0, .ref (g tu))] := hl
  have hown : s.vm.findClass RX1 = some m.cls := hown
  have hS : va_S A s.heap s.heap [] := va_S.rf
  skip
  refine lv_aload_n hx hb dX1_dropBid_0 rfl (lv_at hl 0 rfl) ?_
  refine lv_iconst (v := (-1)) hx hb dX1_dropBid_1 (by decide) ?_
  refine m_put hx hb hts in_X1_dropBid_X1 tyX1 tyX1_ok nmX1 hown hK hM hS h rfl 3 (by decide) (by decide +kernel) rfl (tyX1_ok 3 (by decide)) rfl rfl (Nat.le_of_ble_eq_true rfl) dX1_dropBid_2 (fun H locs hM hz hS => ?_)
  have hm_1 : (mu M tu (.inr (2, [.int ne, .int co, .int nv, .int (-1), .int pr, .int sl, .int ba]))) tu = some (.inr (2, [.int ne, .int co, .int nv, .int (-1), .int pr, .int sl, .int ba])) := mu_s
  have hM : mP E A g (mu M tu (.inr (2, [.int ne, .int co, .int nv, .int (-1), .int pr, .int sl, .int ba]))) H := hM
  refine lv_aload_n hx hb dX1_dropBid_5 rfl (lv_at hl 0 rfl) ?_
  refine lv_iconst (v := 0) hx hb dX1_dropBid_6 (by decide) ?_
  refine m_put hx hb hts in_X1_dropBid_X1 tyX1 tyX1_ok nmX1 hown hK hM hS hm_1 rfl 4 (by decide) (by decide +kernel) rfl (tyX1_ok 4 (by decide)) rfl rfl (Nat.le_of_ble_eq_true rfl) dX1_dropBid_7 (fun H locs hM hz hS => ?_)
  have hm_2 : (mu (mu M tu (.inr (2, [.int ne, .int co, .int nv, .int (-1), .int pr, .int sl, .int ba]))) tu (.inr (2, [.int ne, .int co, .int nv, .int (-1), .int 0, .int sl, .int ba]))) tu = some (.inr (2, [.int ne, .int co, .int nv, .int (-1), .int 0, .int sl, .int ba])) := mu_s
  have hM : mP E A g (mu (mu M tu (.inr (2, [.int ne, .int co, .int nv, .int (-1), .int pr, .int sl, .int ba]))) tu (.inr (2, [.int ne, .int co, .int nv, .int (-1), .int 0, .int sl, .int ba]))) H := hM
  exact w_v hx hb hr hlocks dX1_dropBid_10 hS (Nat.le_of_ble_eq_true rfl) (Nat.le_of_ble_eq_true rfl) (by simpa only [mu_mu] using hM)
/-- the nerve behind a night -/
def nvN (nv x : Int32) : Int32 := if frB nv x = true then (if nv - 1 < 0 then 0 else nv - 1) else if nv < 0 then nv else (if 90 < nv + 1 then 90 else nv + 1)
def baN (ba nv x : Int32) : Int32 := if upB nv x = true then ba + 1 else ba
def rcN (rc : Int32) (fr : Bool) : Int32 := if fr = true then (if rc - 1 < 0 then 0 else rc - 1) else rc
theorem in_X1_stayed_X1 : ∀ w ∈ u_ws RX1 TX1 7, w ∈ wsX1_stayed := by decide +kernel
set_option maxHeartbeats 4000000 in
set_option maxRecDepth 100000 in
theorem c_stayed (l : Launch) (E : gE) (A : Nat → Prop) (g : Nat → Nat) (M : gM) (tu : Nat) (ne co nv fo pr sl ba : Int32) (h : M tu = some (.inr (2, [.int ne, .int co, .int nv, .int fo, .int pr, .int sl, .int ba]))) (w x : Int32) : Met l yX1_stayed wsX1_stayed ({ frames := 2, cells := 0, slots := 0, locals := 43 } : Room) (Pm E [.ref (g tu), .int w, .int x] (mP E A g M)) (QW none (mP E A g (mu M tu (.inr (2, [.int ne, .int (co - w), .int (nvN nv x), .int fo, .int pr, .int (sl + 1), .int (baN ba nv x)])))) A) 0 0 A := by
  refine m_entry (by decide) rfl (Nat.le_of_ble_eq_true rfl) ?_
  intro p e s m args below meth c hx hb hr hml hts hown hlocks hin hM hK ls hl
  have hl : lv_has ls 3 [(0, .ref (g tu)), (1, .int w), (2, .int x)] := hl
  have hown : s.vm.findClass RX1 = some m.cls := hown
  have hS : va_S A s.heap s.heap [] := va_S.rf
  skip
  refine lv_aload_n hx hb dX1_stayed_0 rfl (lv_at hl 0 rfl) ?_
  refine lv_dup hx hb dX1_stayed_1 rfl ?_
  refine m_get hx hb hts in_X1_stayed_X1 hown hK hM h rfl 1 (by decide) (by decide +kernel) rfl dX1_stayed_2 ?_
  refine lv_iload_n hx hb dX1_stayed_5 rfl (lv_at hl 1 rfl) ?_
  refine lv_isub hx hb dX1_stayed_6 ?_
  refine m_put hx hb hts in_X1_stayed_X1 tyX1 tyX1_ok nmX1 hown hK hM hS h rfl 1 (by decide) (by decide +kernel) rfl (tyX1_ok 1 (by decide)) rfl rfl (Nat.le_of_ble_eq_true rfl) dX1_stayed_7 (fun H locs hM hz hS => ?_)
  have hm_1 : (mu M tu (.inr (2, [.int ne, .int (co - w), .int nv, .int fo, .int pr, .int sl, .int ba]))) tu = some (.inr (2, [.int ne, .int (co - w), .int nv, .int fo, .int pr, .int sl, .int ba])) := mu_s
  have hM : mP E A g (mu M tu (.inr (2, [.int ne, .int (co - w), .int nv, .int fo, .int pr, .int sl, .int ba]))) H := hM
  refine lv_aload_n hx hb dX1_stayed_10 rfl (lv_at hl 0 rfl) ?_
  refine lv_dup hx hb dX1_stayed_11 rfl ?_
  refine m_get hx hb hts in_X1_stayed_X1 hown hK hM hm_1 rfl 5 (by decide) (by decide +kernel) rfl dX1_stayed_12 ?_
  refine lv_iconst (v := 1) hx hb dX1_stayed_15 (by decide) ?_
  refine lv_iadd hx hb dX1_stayed_16 ?_
  refine m_put hx hb hts in_X1_stayed_X1 tyX1 tyX1_ok nmX1 hown hK hM hS hm_1 rfl 5 (by decide) (by decide +kernel) rfl (tyX1_ok 5 (by decide)) rfl rfl (Nat.le_of_ble_eq_true rfl) dX1_stayed_17 (fun H locs hM hz hS => ?_)
  have hm_2 : (mu (mu M tu (.inr (2, [.int ne, .int (co - w), .int nv, .int fo, .int pr, .int sl, .int ba]))) tu (.inr (2, [.int ne, .int (co - w), .int nv, .int fo, .int pr, .int (sl + 1), .int ba]))) tu = some (.inr (2, [.int ne, .int (co - w), .int nv, .int fo, .int pr, .int (sl + 1), .int ba])) := mu_s
  have hM : mP E A g (mu (mu M tu (.inr (2, [.int ne, .int (co - w), .int nv, .int fo, .int pr, .int sl, .int ba]))) tu (.inr (2, [.int ne, .int (co - w), .int nv, .int fo, .int pr, .int (sl + 1), .int ba]))) H := hM
  refine lv_aload_n hx hb dX1_stayed_20 rfl (lv_at hl 0 rfl) ?_
  refine lv_iload_n hx hb dX1_stayed_21 rfl (lv_at hl 2 rfl) ?_
  refine m_cV 1 [.int x] [] hx hb hml hown hts hK (c_upset l E A g (mu (mu M tu (.inr (2, [.int ne, .int (co - w), .int nv, .int fo, .int pr, .int sl, .int ba]))) tu (.inr (2, [.int ne, .int (co - w), .int nv, .int fo, .int pr, .int (sl + 1), .int ba]))) tu ne (co - w) nv fo pr (sl + 1) ba hm_2 x) gX1_stayed_X1_isUpsetBy rfl rfl rfl (by decide +kernel) rfl ⟨Nat.le_of_ble_eq_true rfl, Nat.le_of_ble_eq_true rfl⟩ hM hm_2 rfl rfl hM hl.1 (Nat.le_of_ble_eq_true rfl) ⟨Nat.le_of_ble_eq_true rfl, Nat.le_of_ble_eq_true rfl⟩ rfl dX1_stayed_22 ?_
  refine lv_if_eq (tgt := 38) hx hb dX1_stayed_25 (by decide) (fun c25 => ?_) (fun c25 => ?_)
  · have c25 := bI_f c25
    refine lv_aload_n hx hb dX1_stayed_38 rfl (lv_at hl 0 rfl) ?_
    refine lv_iload_n hx hb dX1_stayed_39 rfl (lv_at hl 2 rfl) ?_
    refine m_cV 1 [.int x] [] hx hb hml hown hts hK (c_fright l E A g (mu (mu M tu (.inr (2, [.int ne, .int (co - w), .int nv, .int fo, .int pr, .int sl, .int ba]))) tu (.inr (2, [.int ne, .int (co - w), .int nv, .int fo, .int pr, .int (sl + 1), .int ba]))) tu ne (co - w) nv fo pr (sl + 1) ba hm_2 x) gX1_stayed_X1_isFrightenedBy rfl rfl rfl (by decide +kernel) rfl ⟨Nat.le_of_ble_eq_true rfl, Nat.le_of_ble_eq_true rfl⟩ hM hm_2 rfl rfl hM hl.1 (Nat.le_of_ble_eq_true rfl) ⟨Nat.le_of_ble_eq_true rfl, Nat.le_of_ble_eq_true rfl⟩ rfl dX1_stayed_40 ?_
    refine lv_if_eq (tgt := 63) hx hb dX1_stayed_43 (by decide) (fun c43 => ?_) (fun c43 => ?_)
    · have c43 := bI_f c43
      refine lv_aload_n hx hb dX1_stayed_63 rfl (lv_at hl 0 rfl) ?_
      refine m_get hx hb hts in_X1_stayed_X1 hown hK hM hm_2 rfl 2 (by decide) (by decide +kernel) rfl dX1_stayed_64 ?_
      refine lv_if_lt (tgt := 85) hx hb dX1_stayed_67 (by decide) (fun c67 => ?_) (fun c67 => ?_)
      · exact w_v hx hb hr hlocks dX1_stayed_85 hS (Nat.le_of_ble_eq_true rfl) (Nat.le_of_ble_eq_true rfl) (by simp only [nvN, baN, c25, c43, c67, if_true, if_false, true_and, and_true, false_and, and_false, not_true_eq_false, not_false_eq_true, reduceCtorEq, eq_self_iff_true, and_self, Bool.false_eq_true, Bool.not_eq_true]; simpa only [mu_mu, Int32.add_zero] using hM)
      · refine lv_aload_n hx hb dX1_stayed_70 rfl (lv_at hl 0 rfl) ?_
        refine lv_aload_n hx hb dX1_stayed_71 rfl (lv_at hl 0 rfl) ?_
        refine m_get hx hb hts in_X1_stayed_X1 hown hK hM hm_2 rfl 2 (by decide) (by decide +kernel) rfl dX1_stayed_72 ?_
        refine lv_iconst (v := 1) hx hb dX1_stayed_75 (by decide) ?_
        refine lv_iadd hx hb dX1_stayed_76 ?_
        refine lv_bipush (v := 90) hx hb dX1_stayed_77 (by decide) ?_
        refine va_mmin hx hb (hml.trans hl.1.symm) hown (hts (.methodLink RX1 52 Lib.Math.min.name) (by decide +kernel)) (hts (.static Lib.Math.min.name) (by decide +kernel)) (hts (.initialized "java/lang/Math") (by decide +kernel)) (hts (.code Lib.Math.min.name Lib.Math.min.code 2 (some .int)) (by decide +kernel)) (Nat.le_of_ble_eq_true rfl) (Nat.le_of_ble_eq_true rfl) (Nat.zero_le _) (Nat.zero_le _) dX1_stayed_79 ?_
        refine m_put hx hb hts in_X1_stayed_X1 tyX1 tyX1_ok nmX1 hown hK hM hS hm_2 rfl 2 (by decide) (by decide +kernel) rfl (tyX1_ok 2 (by decide)) rfl rfl (Nat.le_of_ble_eq_true rfl) dX1_stayed_82 (fun H locs hM hz hS => ?_)
        have hm_3 : (mu (mu (mu M tu (.inr (2, [.int ne, .int (co - w), .int nv, .int fo, .int pr, .int sl, .int ba]))) tu (.inr (2, [.int ne, .int (co - w), .int nv, .int fo, .int pr, .int (sl + 1), .int ba]))) tu (.inr (2, [.int ne, .int (co - w), .int (if 90 < (nv + 1) then 90 else (nv + 1)), .int fo, .int pr, .int (sl + 1), .int ba]))) tu = some (.inr (2, [.int ne, .int (co - w), .int (if 90 < (nv + 1) then 90 else (nv + 1)), .int fo, .int pr, .int (sl + 1), .int ba])) := mu_s
        have hM : mP E A g (mu (mu (mu M tu (.inr (2, [.int ne, .int (co - w), .int nv, .int fo, .int pr, .int sl, .int ba]))) tu (.inr (2, [.int ne, .int (co - w), .int nv, .int fo, .int pr, .int (sl + 1), .int ba]))) tu (.inr (2, [.int ne, .int (co - w), .int (if 90 < (nv + 1) then 90 else (nv + 1)), .int fo, .int pr, .int (sl + 1), .int ba]))) H := hM
        exact w_v hx hb hr hlocks dX1_stayed_85 hS (Nat.le_of_ble_eq_true rfl) (Nat.le_of_ble_eq_true rfl) (by simp only [nvN, baN, c25, c43, c67, if_true, if_false, true_and, and_true, false_and, and_false, not_true_eq_false, not_false_eq_true, reduceCtorEq, eq_self_iff_true, and_self, Bool.false_eq_true, Bool.not_eq_true]; simpa only [mu_mu, Int32.add_zero] using hM)
    · have c43 := bI_t c43
      refine lv_aload_n hx hb dX1_stayed_46 rfl (lv_at hl 0 rfl) ?_
      refine lv_aload_n hx hb dX1_stayed_47 rfl (lv_at hl 0 rfl) ?_
      refine m_get hx hb hts in_X1_stayed_X1 hown hK hM hm_2 rfl 2 (by decide) (by decide +kernel) rfl dX1_stayed_48 ?_
      refine lv_iconst (v := 1) hx hb dX1_stayed_51 (by decide) ?_
      refine lv_isub hx hb dX1_stayed_52 ?_
      refine lv_iconst (v := 0) hx hb dX1_stayed_53 (by decide) ?_
      refine va_mmax hx hb (hml.trans hl.1.symm) hown (hts (.methodLink RX1 46 Lib.Math.max.name) (by decide +kernel)) (hts (.static Lib.Math.max.name) (by decide +kernel)) (hts (.initialized "java/lang/Math") (by decide +kernel)) (hts (.code Lib.Math.max.name Lib.Math.max.code 2 (some .int)) (by decide +kernel)) (Nat.le_of_ble_eq_true rfl) (Nat.le_of_ble_eq_true rfl) (Nat.zero_le _) (Nat.zero_le _) dX1_stayed_54 ?_
      refine m_put hx hb hts in_X1_stayed_X1 tyX1 tyX1_ok nmX1 hown hK hM hS hm_2 rfl 2 (by decide) (by decide +kernel) rfl (tyX1_ok 2 (by decide)) rfl rfl (Nat.le_of_ble_eq_true rfl) dX1_stayed_57 (fun H locs hM hz hS => ?_)
      have hm_4 : (mu (mu (mu M tu (.inr (2, [.int ne, .int (co - w), .int nv, .int fo, .int pr, .int sl, .int ba]))) tu (.inr (2, [.int ne, .int (co - w), .int nv, .int fo, .int pr, .int (sl + 1), .int ba]))) tu (.inr (2, [.int ne, .int (co - w), .int (if (nv - 1) < 0 then 0 else (nv - 1)), .int fo, .int pr, .int (sl + 1), .int ba]))) tu = some (.inr (2, [.int ne, .int (co - w), .int (if (nv - 1) < 0 then 0 else (nv - 1)), .int fo, .int pr, .int (sl + 1), .int ba])) := mu_s
      have hM : mP E A g (mu (mu (mu M tu (.inr (2, [.int ne, .int (co - w), .int nv, .int fo, .int pr, .int sl, .int ba]))) tu (.inr (2, [.int ne, .int (co - w), .int nv, .int fo, .int pr, .int (sl + 1), .int ba]))) tu (.inr (2, [.int ne, .int (co - w), .int (if (nv - 1) < 0 then 0 else (nv - 1)), .int fo, .int pr, .int (sl + 1), .int ba]))) H := hM
      refine lv_goto (tgt := 85) hx hb dX1_stayed_60 (by decide) ?_
      exact w_v hx hb hr hlocks dX1_stayed_85 hS (Nat.le_of_ble_eq_true rfl) (Nat.le_of_ble_eq_true rfl) (by simp only [nvN, baN, c25, c43, if_true, if_false, true_and, and_true, false_and, and_false, not_true_eq_false, not_false_eq_true, reduceCtorEq, eq_self_iff_true, and_self, Bool.false_eq_true, Bool.not_eq_true]; simpa only [mu_mu, Int32.add_zero] using hM)
  · have c25 := bI_t c25
    refine lv_aload_n hx hb dX1_stayed_28 rfl (lv_at hl 0 rfl) ?_
    refine lv_dup hx hb dX1_stayed_29 rfl ?_
    refine m_get hx hb hts in_X1_stayed_X1 hown hK hM hm_2 rfl 6 (by decide) (by decide +kernel) rfl dX1_stayed_30 ?_
    refine lv_iconst (v := 1) hx hb dX1_stayed_33 (by decide) ?_
    refine lv_iadd hx hb dX1_stayed_34 ?_
    refine m_put hx hb hts in_X1_stayed_X1 tyX1 tyX1_ok nmX1 hown hK hM hS hm_2 rfl 6 (by decide) (by decide +kernel) rfl (tyX1_ok 6 (by decide)) rfl rfl (Nat.le_of_ble_eq_true rfl) dX1_stayed_35 (fun H locs hM hz hS => ?_)
    have hm_5 : (mu (mu (mu M tu (.inr (2, [.int ne, .int (co - w), .int nv, .int fo, .int pr, .int sl, .int ba]))) tu (.inr (2, [.int ne, .int (co - w), .int nv, .int fo, .int pr, .int (sl + 1), .int ba]))) tu (.inr (2, [.int ne, .int (co - w), .int nv, .int fo, .int pr, .int (sl + 1), .int (ba + 1)]))) tu = some (.inr (2, [.int ne, .int (co - w), .int nv, .int fo, .int pr, .int (sl + 1), .int (ba + 1)])) := mu_s
    have hM : mP E A g (mu (mu (mu M tu (.inr (2, [.int ne, .int (co - w), .int nv, .int fo, .int pr, .int sl, .int ba]))) tu (.inr (2, [.int ne, .int (co - w), .int nv, .int fo, .int pr, .int (sl + 1), .int ba]))) tu (.inr (2, [.int ne, .int (co - w), .int nv, .int fo, .int pr, .int (sl + 1), .int (ba + 1)]))) H := hM
    refine lv_aload_n hx hb dX1_stayed_38 rfl (lv_at hl 0 rfl) ?_
    refine lv_iload_n hx hb dX1_stayed_39 rfl (lv_at hl 2 rfl) ?_
    refine m_cV 1 [.int x] [] hx hb hml hown hts hK (c_fright l E A g (mu (mu (mu M tu (.inr (2, [.int ne, .int (co - w), .int nv, .int fo, .int pr, .int sl, .int ba]))) tu (.inr (2, [.int ne, .int (co - w), .int nv, .int fo, .int pr, .int (sl + 1), .int ba]))) tu (.inr (2, [.int ne, .int (co - w), .int nv, .int fo, .int pr, .int (sl + 1), .int (ba + 1)]))) tu ne (co - w) nv fo pr (sl + 1) (ba + 1) hm_5 x) gX1_stayed_X1_isFrightenedBy rfl rfl rfl (by decide +kernel) rfl ⟨Nat.le_of_ble_eq_true rfl, Nat.le_of_ble_eq_true rfl⟩ hM hm_5 rfl rfl hM hl.1 (Nat.le_of_ble_eq_true rfl) ⟨Nat.le_of_ble_eq_true rfl, Nat.le_of_ble_eq_true rfl⟩ rfl dX1_stayed_40 ?_
    refine lv_if_eq (tgt := 63) hx hb dX1_stayed_43 (by decide) (fun c43 => ?_) (fun c43 => ?_)
    · have c43 := bI_f c43
      refine lv_aload_n hx hb dX1_stayed_63 rfl (lv_at hl 0 rfl) ?_
      refine m_get hx hb hts in_X1_stayed_X1 hown hK hM hm_5 rfl 2 (by decide) (by decide +kernel) rfl dX1_stayed_64 ?_
      refine lv_if_lt (tgt := 85) hx hb dX1_stayed_67 (by decide) (fun c67 => ?_) (fun c67 => ?_)
      · exact w_v hx hb hr hlocks dX1_stayed_85 hS (Nat.le_of_ble_eq_true rfl) (Nat.le_of_ble_eq_true rfl) (by simp only [nvN, baN, c25, c43, c67, if_true, if_false, true_and, and_true, false_and, and_false, not_true_eq_false, not_false_eq_true, reduceCtorEq, eq_self_iff_true, and_self, Bool.false_eq_true, Bool.not_eq_true]; simpa only [mu_mu, Int32.add_zero] using hM)
      · refine lv_aload_n hx hb dX1_stayed_70 rfl (lv_at hl 0 rfl) ?_
        refine lv_aload_n hx hb dX1_stayed_71 rfl (lv_at hl 0 rfl) ?_
        refine m_get hx hb hts in_X1_stayed_X1 hown hK hM hm_5 rfl 2 (by decide) (by decide +kernel) rfl dX1_stayed_72 ?_
        refine lv_iconst (v := 1) hx hb dX1_stayed_75 (by decide) ?_
        refine lv_iadd hx hb dX1_stayed_76 ?_
        refine lv_bipush (v := 90) hx hb dX1_stayed_77 (by decide) ?_
        refine va_mmin hx hb (hml.trans hl.1.symm) hown (hts (.methodLink RX1 52 Lib.Math.min.name) (by decide +kernel)) (hts (.static Lib.Math.min.name) (by decide +kernel)) (hts (.initialized "java/lang/Math") (by decide +kernel)) (hts (.code Lib.Math.min.name Lib.Math.min.code 2 (some .int)) (by decide +kernel)) (Nat.le_of_ble_eq_true rfl) (Nat.le_of_ble_eq_true rfl) (Nat.zero_le _) (Nat.zero_le _) dX1_stayed_79 ?_
        refine m_put hx hb hts in_X1_stayed_X1 tyX1 tyX1_ok nmX1 hown hK hM hS hm_5 rfl 2 (by decide) (by decide +kernel) rfl (tyX1_ok 2 (by decide)) rfl rfl (Nat.le_of_ble_eq_true rfl) dX1_stayed_82 (fun H locs hM hz hS => ?_)
        have hm_6 : (mu (mu (mu (mu M tu (.inr (2, [.int ne, .int (co - w), .int nv, .int fo, .int pr, .int sl, .int ba]))) tu (.inr (2, [.int ne, .int (co - w), .int nv, .int fo, .int pr, .int (sl + 1), .int ba]))) tu (.inr (2, [.int ne, .int (co - w), .int nv, .int fo, .int pr, .int (sl + 1), .int (ba + 1)]))) tu (.inr (2, [.int ne, .int (co - w), .int (if 90 < (nv + 1) then 90 else (nv + 1)), .int fo, .int pr, .int (sl + 1), .int (ba + 1)]))) tu = some (.inr (2, [.int ne, .int (co - w), .int (if 90 < (nv + 1) then 90 else (nv + 1)), .int fo, .int pr, .int (sl + 1), .int (ba + 1)])) := mu_s
        have hM : mP E A g (mu (mu (mu (mu M tu (.inr (2, [.int ne, .int (co - w), .int nv, .int fo, .int pr, .int sl, .int ba]))) tu (.inr (2, [.int ne, .int (co - w), .int nv, .int fo, .int pr, .int (sl + 1), .int ba]))) tu (.inr (2, [.int ne, .int (co - w), .int nv, .int fo, .int pr, .int (sl + 1), .int (ba + 1)]))) tu (.inr (2, [.int ne, .int (co - w), .int (if 90 < (nv + 1) then 90 else (nv + 1)), .int fo, .int pr, .int (sl + 1), .int (ba + 1)]))) H := hM
        exact w_v hx hb hr hlocks dX1_stayed_85 hS (Nat.le_of_ble_eq_true rfl) (Nat.le_of_ble_eq_true rfl) (by simp only [nvN, baN, c25, c43, c67, if_true, if_false, true_and, and_true, false_and, and_false, not_true_eq_false, not_false_eq_true, reduceCtorEq, eq_self_iff_true, and_self, Bool.false_eq_true, Bool.not_eq_true]; simpa only [mu_mu, Int32.add_zero] using hM)
    · have c43 := bI_t c43
      refine lv_aload_n hx hb dX1_stayed_46 rfl (lv_at hl 0 rfl) ?_
      refine lv_aload_n hx hb dX1_stayed_47 rfl (lv_at hl 0 rfl) ?_
      refine m_get hx hb hts in_X1_stayed_X1 hown hK hM hm_5 rfl 2 (by decide) (by decide +kernel) rfl dX1_stayed_48 ?_
      refine lv_iconst (v := 1) hx hb dX1_stayed_51 (by decide) ?_
      refine lv_isub hx hb dX1_stayed_52 ?_
      refine lv_iconst (v := 0) hx hb dX1_stayed_53 (by decide) ?_
      refine va_mmax hx hb (hml.trans hl.1.symm) hown (hts (.methodLink RX1 46 Lib.Math.max.name) (by decide +kernel)) (hts (.static Lib.Math.max.name) (by decide +kernel)) (hts (.initialized "java/lang/Math") (by decide +kernel)) (hts (.code Lib.Math.max.name Lib.Math.max.code 2 (some .int)) (by decide +kernel)) (Nat.le_of_ble_eq_true rfl) (Nat.le_of_ble_eq_true rfl) (Nat.zero_le _) (Nat.zero_le _) dX1_stayed_54 ?_
      refine m_put hx hb hts in_X1_stayed_X1 tyX1 tyX1_ok nmX1 hown hK hM hS hm_5 rfl 2 (by decide) (by decide +kernel) rfl (tyX1_ok 2 (by decide)) rfl rfl (Nat.le_of_ble_eq_true rfl) dX1_stayed_57 (fun H locs hM hz hS => ?_)
      have hm_7 : (mu (mu (mu (mu M tu (.inr (2, [.int ne, .int (co - w), .int nv, .int fo, .int pr, .int sl, .int ba]))) tu (.inr (2, [.int ne, .int (co - w), .int nv, .int fo, .int pr, .int (sl + 1), .int ba]))) tu (.inr (2, [.int ne, .int (co - w), .int nv, .int fo, .int pr, .int (sl + 1), .int (ba + 1)]))) tu (.inr (2, [.int ne, .int (co - w), .int (if (nv - 1) < 0 then 0 else (nv - 1)), .int fo, .int pr, .int (sl + 1), .int (ba + 1)]))) tu = some (.inr (2, [.int ne, .int (co - w), .int (if (nv - 1) < 0 then 0 else (nv - 1)), .int fo, .int pr, .int (sl + 1), .int (ba + 1)])) := mu_s
      have hM : mP E A g (mu (mu (mu (mu M tu (.inr (2, [.int ne, .int (co - w), .int nv, .int fo, .int pr, .int sl, .int ba]))) tu (.inr (2, [.int ne, .int (co - w), .int nv, .int fo, .int pr, .int (sl + 1), .int ba]))) tu (.inr (2, [.int ne, .int (co - w), .int nv, .int fo, .int pr, .int (sl + 1), .int (ba + 1)]))) tu (.inr (2, [.int ne, .int (co - w), .int (if (nv - 1) < 0 then 0 else (nv - 1)), .int fo, .int pr, .int (sl + 1), .int (ba + 1)]))) H := hM
      refine lv_goto (tgt := 85) hx hb dX1_stayed_60 (by decide) ?_
      exact w_v hx hb hr hlocks dX1_stayed_85 hS (Nat.le_of_ble_eq_true rfl) (Nat.le_of_ble_eq_true rfl) (by simp only [nvN, baN, c25, c43, if_true, if_false, true_and, and_true, false_and, and_false, not_true_eq_false, not_false_eq_true, reduceCtorEq, eq_self_iff_true, and_self, Bool.false_eq_true, Bool.not_eq_true]; simpa only [mu_mu, Int32.add_zero] using hM)
theorem in_X2_openTo_X2 : ∀ w ∈ u_ws RX2 TX2 6, w ∈ wsX2_openTo := by decide +kernel
set_option maxHeartbeats 4000000 in
set_option maxRecDepth 100000 in
theorem c_openTo (l : Launch) (E : gE) (A : Nat → Prop) (g : Nat → Nat) (M : gM) (tr : Nat) (rb rl rc rn re rd : Int32) (h9 : M tr = some (.inr (3, [.int rb, .int rl, .int rc, .int rn, .int re, .int rd]))) (j : Nat) : Met l yX2_openTo wsX2_openTo ({ frames := 0, cells := 0, slots := 0, locals := 0 } : Room) (Pm E [.ref (g tr), .int (nI j)] (mP E A g M)) (QW none (mP E A g (mu M tr (.inr (3, [.int rb, .int rl, .int rc, .int rn, .int re, .int (rd ||| (1 <<< (nI j &&& 31)))])))) A) 0 0 A := by
  refine m_entry (by decide) rfl (Nat.le_of_ble_eq_true rfl) ?_
  intro p e s m args below meth c hx hb hr hml hts hown hlocks hin hM hK ls hl
  have hl : lv_has ls 2 [(0, .ref (g tr)), (1, .int (nI j))] := hl
  have hown : s.vm.findClass RX2 = some m.cls := hown
  have hS : va_S A s.heap s.heap [] := va_S.rf
  skip
  refine lv_aload_n hx hb dX2_openTo_0 rfl (lv_at hl 0 rfl) ?_
  refine lv_dup hx hb dX2_openTo_1 rfl ?_
  refine m_get hx hb hts in_X2_openTo_X2 hown hK hM h9 rfl 5 (by decide) (by decide +kernel) rfl dX2_openTo_2 ?_
  refine lv_iconst (v := 1) hx hb dX2_openTo_5 (by decide) ?_
  refine lv_iload_n hx hb dX2_openTo_6 rfl (lv_at hl 1 rfl) ?_
  refine lv_ishl hx hb dX2_openTo_7 ?_
  refine lv_ior hx hb dX2_openTo_8 ?_
  refine m_put hx hb hts in_X2_openTo_X2 tyX2 tyX2_ok nmX2 hown hK hM hS h9 rfl 5 (by decide) (by decide +kernel) rfl (tyX2_ok 5 (by decide)) rfl rfl (Nat.le_of_ble_eq_true rfl) dX2_openTo_9 (fun H locs hM hz hS => ?_)
  have hm_1 : (mu M tr (.inr (3, [.int rb, .int rl, .int rc, .int rn, .int re, .int (rd ||| (1 <<< ((nI j) &&& 31)))]))) tr = some (.inr (3, [.int rb, .int rl, .int rc, .int rn, .int re, .int (rd ||| (1 <<< ((nI j) &&& 31)))])) := mu_s
  have hM : mP E A g (mu M tr (.inr (3, [.int rb, .int rl, .int rc, .int rn, .int re, .int (rd ||| (1 <<< ((nI j) &&& 31)))]))) H := hM
  exact w_v hx hb hr hlocks dX2_openTo_12 hS (Nat.le_of_ble_eq_true rfl) (Nat.le_of_ble_eq_true rfl) (by simpa only [mu_mu] using hM)
theorem in_X2_wasLet_X2 : ∀ w ∈ u_ws RX2 TX2 6, w ∈ wsX2_wasLet := by decide +kernel
set_option maxHeartbeats 4000000 in
set_option maxRecDepth 100000 in
theorem c_wasLet (l : Launch) (E : gE) (A : Nat → Prop) (g : Nat → Nat) (M : gM) (tr : Nat) (rb rl rc rn re rd : Int32) (h9 : M tr = some (.inr (3, [.int rb, .int rl, .int rc, .int rn, .int re, .int rd]))) (w : Int32) (fr : Bool) : Met l yX2_wasLet wsX2_wasLet ({ frames := 1, cells := 0, slots := 0, locals := 21 } : Room) (Pm E [.ref (g tr), .int w, .int (bI fr)] (mP E A g M)) (QW none (mP E A g (mu M tr (.inr (3, [.int rb, .int rl, .int (rcN rc fr), .int (rn + 1), .int (re + w), .int rd])))) A) 0 0 A := by
  refine m_entry (by decide) rfl (Nat.le_of_ble_eq_true rfl) ?_
  intro p e s m args below meth c hx hb hr hml hts hown hlocks hin hM hK ls hl
  have hl : lv_has ls 3 [(0, .ref (g tr)), (1, .int w), (2, .int (bI fr))] := hl
  have hown : s.vm.findClass RX2 = some m.cls := hown
  have hS : va_S A s.heap s.heap [] := va_S.rf
  skip
  refine lv_aload_n hx hb dX2_wasLet_0 rfl (lv_at hl 0 rfl) ?_
  refine lv_dup hx hb dX2_wasLet_1 rfl ?_
  refine m_get hx hb hts in_X2_wasLet_X2 hown hK hM h9 rfl 3 (by decide) (by decide +kernel) rfl dX2_wasLet_2 ?_
  refine lv_iconst (v := 1) hx hb dX2_wasLet_5 (by decide) ?_
  refine lv_iadd hx hb dX2_wasLet_6 ?_
  refine m_put hx hb hts in_X2_wasLet_X2 tyX2 tyX2_ok nmX2 hown hK hM hS h9 rfl 3 (by decide) (by decide +kernel) rfl (tyX2_ok 3 (by decide)) rfl rfl (Nat.le_of_ble_eq_true rfl) dX2_wasLet_7 (fun H locs hM hz hS => ?_)
  have hm_1 : (mu M tr (.inr (3, [.int rb, .int rl, .int rc, .int (rn + 1), .int re, .int rd]))) tr = some (.inr (3, [.int rb, .int rl, .int rc, .int (rn + 1), .int re, .int rd])) := mu_s
  have hM : mP E A g (mu M tr (.inr (3, [.int rb, .int rl, .int rc, .int (rn + 1), .int re, .int rd]))) H := hM
  refine lv_aload_n hx hb dX2_wasLet_10 rfl (lv_at hl 0 rfl) ?_
  refine lv_dup hx hb dX2_wasLet_11 rfl ?_
  refine m_get hx hb hts in_X2_wasLet_X2 hown hK hM hm_1 rfl 4 (by decide) (by decide +kernel) rfl dX2_wasLet_12 ?_
  refine lv_iload_n hx hb dX2_wasLet_15 rfl (lv_at hl 1 rfl) ?_
  refine lv_iadd hx hb dX2_wasLet_16 ?_
  refine m_put hx hb hts in_X2_wasLet_X2 tyX2 tyX2_ok nmX2 hown hK hM hS hm_1 rfl 4 (by decide) (by decide +kernel) rfl (tyX2_ok 4 (by decide)) rfl rfl (Nat.le_of_ble_eq_true rfl) dX2_wasLet_17 (fun H locs hM hz hS => ?_)
  have hm_2 : (mu (mu M tr (.inr (3, [.int rb, .int rl, .int rc, .int (rn + 1), .int re, .int rd]))) tr (.inr (3, [.int rb, .int rl, .int rc, .int (rn + 1), .int (re + w), .int rd]))) tr = some (.inr (3, [.int rb, .int rl, .int rc, .int (rn + 1), .int (re + w), .int rd])) := mu_s
  have hM : mP E A g (mu (mu M tr (.inr (3, [.int rb, .int rl, .int rc, .int (rn + 1), .int re, .int rd]))) tr (.inr (3, [.int rb, .int rl, .int rc, .int (rn + 1), .int (re + w), .int rd]))) H := hM
  refine lv_iload_n hx hb dX2_wasLet_20 rfl (lv_at hl 2 rfl) ?_
  refine lv_if_eq (tgt := 38) hx hb dX2_wasLet_21 (by decide) (fun c21 => ?_) (fun c21 => ?_)
  · have c21 := bI_f c21
    exact w_v hx hb hr hlocks dX2_wasLet_38 hS (Nat.le_of_ble_eq_true rfl) (Nat.le_of_ble_eq_true rfl) (by simp only [rcN, c21, if_true, if_false, true_and, and_true, false_and, and_false, not_true_eq_false, not_false_eq_true, reduceCtorEq, eq_self_iff_true, and_self, Bool.false_eq_true, Bool.not_eq_true]; simpa only [mu_mu] using hM)
  · have c21 := bI_t c21
    refine lv_aload_n hx hb dX2_wasLet_24 rfl (lv_at hl 0 rfl) ?_
    refine lv_aload_n hx hb dX2_wasLet_25 rfl (lv_at hl 0 rfl) ?_
    refine m_get hx hb hts in_X2_wasLet_X2 hown hK hM hm_2 rfl 2 (by decide) (by decide +kernel) rfl dX2_wasLet_26 ?_
    refine lv_iconst (v := 1) hx hb dX2_wasLet_29 (by decide) ?_
    refine lv_isub hx hb dX2_wasLet_30 ?_
    refine lv_iconst (v := 0) hx hb dX2_wasLet_31 (by decide) ?_
    refine va_mmax hx hb (hml.trans hl.1.symm) hown (hts (.methodLink RX2 34 Lib.Math.max.name) (by decide +kernel)) (hts (.static Lib.Math.max.name) (by decide +kernel)) (hts (.initialized "java/lang/Math") (by decide +kernel)) (hts (.code Lib.Math.max.name Lib.Math.max.code 2 (some .int)) (by decide +kernel)) (Nat.le_of_ble_eq_true rfl) (Nat.le_of_ble_eq_true rfl) (Nat.zero_le _) (Nat.zero_le _) dX2_wasLet_32 ?_
    refine m_put hx hb hts in_X2_wasLet_X2 tyX2 tyX2_ok nmX2 hown hK hM hS hm_2 rfl 2 (by decide) (by decide +kernel) rfl (tyX2_ok 2 (by decide)) rfl rfl (Nat.le_of_ble_eq_true rfl) dX2_wasLet_35 (fun H locs hM hz hS => ?_)
    have hm_3 : (mu (mu (mu M tr (.inr (3, [.int rb, .int rl, .int rc, .int (rn + 1), .int re, .int rd]))) tr (.inr (3, [.int rb, .int rl, .int rc, .int (rn + 1), .int (re + w), .int rd]))) tr (.inr (3, [.int rb, .int rl, .int (if (rc - 1) < 0 then 0 else (rc - 1)), .int (rn + 1), .int (re + w), .int rd]))) tr = some (.inr (3, [.int rb, .int rl, .int (if (rc - 1) < 0 then 0 else (rc - 1)), .int (rn + 1), .int (re + w), .int rd])) := mu_s
    have hM : mP E A g (mu (mu (mu M tr (.inr (3, [.int rb, .int rl, .int rc, .int (rn + 1), .int re, .int rd]))) tr (.inr (3, [.int rb, .int rl, .int rc, .int (rn + 1), .int (re + w), .int rd]))) tr (.inr (3, [.int rb, .int rl, .int (if (rc - 1) < 0 then 0 else (rc - 1)), .int (rn + 1), .int (re + w), .int rd]))) H := hM
    exact w_v hx hb hr hlocks dX2_wasLet_38 hS (Nat.le_of_ble_eq_true rfl) (Nat.le_of_ble_eq_true rfl) (by simp only [rcN, c21, if_true, if_false, true_and, and_true, false_and, and_false, not_true_eq_false, not_false_eq_true, reduceCtorEq, eq_self_iff_true, and_self, Bool.false_eq_true, Bool.not_eq_true]; simpa only [mu_mu] using hM)
theorem in_X0_setPlace_X0 : ∀ w ∈ u_ws RX0 TX0 5, w ∈ wsX0_setPlace := by decide +kernel
set_option maxHeartbeats 4000000 in
set_option maxRecDepth 100000 in
theorem c_setPlace (l : Launch) (E : gE) (A : Nat → Prop) (g : Nat → Nat) (M : gM) (tg tp : Nat) (ho fr wa be : Int32) (h : M tg = some (.inr (1, [.int ho, .int fr, .int wa, .int be, .ref (g tp)]))) (f : Nat → Int32) (h2 : M tp = some (.inl (E.2.1, 12, .inl f))) (htp : tp ≠ tg) (j : Nat) (hj : j < 12) (x : Int32) : Met l yX0_setPlace wsX0_setPlace ({ frames := 0, cells := 0, slots := 0, locals := 0 } : Room) (Pm E [.ref (g tg), .int (nI j), .int x] (mP E A g M)) (QW none (mP E A g (mu M tp (.inl (E.2.1, 12, .inl (upd f (nI j).toNatClampNeg x))))) A) 0 0 A := by
  refine m_entry (by decide) rfl (Nat.le_of_ble_eq_true rfl) ?_
  intro p e s m args below meth c hx hb hr hml hts hown hlocks hin hM hK ls hl
  have hl : lv_has ls 3 [(0, .ref (g tg)), (1, .int (nI j)), (2, .int x)] := hl
  have hown : s.vm.findClass RX0 = some m.cls := hown
  have hS : va_S A s.heap s.heap [] := va_S.rf
  skip
  refine lv_iload_n hx hb dX0_setPlace_0 rfl (lv_at hl 1 rfl) ?_
  refine lv_if_lt (tgt := 20) hx hb dX0_setPlace_1 (by decide) (fun c9 => absurd c9 (nI_pos (by omega))) (fun c1 => ?_)
  refine lv_iload_n hx hb dX0_setPlace_4 rfl (lv_at hl 1 rfl) ?_
  refine lv_aload_n hx hb dX0_setPlace_5 rfl (lv_at hl 0 rfl) ?_
  refine m_get hx hb hts in_X0_setPlace_X0 hown hK hM h rfl 4 (by decide) (by decide +kernel) rfl dX0_setPlace_6 ?_
  refine m_alen (v := nI 12) hx hb hK hM h2 rfl dX0_setPlace_9 ?_
  refine lv_icmp_ge (tgt := 20) hx hb dX0_setPlace_10 (by decide) (fun c9 => absurd c9 (nI_ge hj (by decide))) (fun c10 => ?_)
  refine lv_aload_n hx hb dX0_setPlace_13 rfl (lv_at hl 0 rfl) ?_
  refine m_get hx hb hts in_X0_setPlace_X0 hown hK hM h rfl 4 (by decide) (by decide +kernel) rfl dX0_setPlace_14 ?_
  refine lv_iload_n hx hb dX0_setPlace_17 rfl (lv_at hl 1 rfl) ?_
  refine lv_iload_n hx hb dX0_setPlace_18 rfl (lv_at hl 2 rfl) ?_
  refine m_iast hx hb hK hM hS h2 (ix_ok ⟨hj, by decide⟩) dX0_setPlace_19 (fun H locs hM hz hS => ?_)
  have hm_1 : (mu M tp (.inl (E.2.1, 12, .inl (upd f (nI j).toNatClampNeg x)))) tp = some (.inl (E.2.1, 12, .inl (upd f (nI j).toNatClampNeg x))) := mu_s
  have hm_2 := (mu_n (e := (.inl (E.2.1, 12, .inl (upd f (nI j).toNatClampNeg x)))) (t := tp) (Ne.symm htp)).trans h
  have hM : mP E A g (mu M tp (.inl (E.2.1, 12, .inl (upd f (nI j).toNatClampNeg x)))) H := hM
  exact w_v hx hb hr hlocks dX0_setPlace_20 hS (Nat.le_of_ble_eq_true rfl) (Nat.le_of_ble_eq_true rfl) (hM)
theorem plN_congr {σ σ2 : Sg} (h1 : sGh σ2 = sGh σ) (h2 : sJn σ2 = sJn σ) (i : Nat) : ∀ k, plN σ2 i k = plN σ i k
  | 0 => by rw [plN, plN, h1]
  | k + 1 => by rw [plN, plN, plN_congr h1 h2 i k, h2]
theorem plc_congr {σ σ2 : Sg} (h1 : sGh σ2 = sGh σ) (h2 : sJn σ2 = sJn σ) (i h : Nat) : plc σ2 i h = plc σ i h := by
  rw [plc, plc, h1, plN_congr h1 h2]
theorem guestE_congr {σ σ2 : Sg} {i : Nat} (h : ∀ k, k < 7 → sGu σ2 i k = sGu σ i k) : guestE σ2 i = guestE σ i := by
  unfold guestE
  rw [h 0 (by decide), h 1 (by decide), h 2 (by decide), h 3 (by decide), h 4 (by decide), h 5 (by decide), h 6 (by decide)]
theorem roomE_congr {σ σ2 : Sg} {i : Nat} (h : ∀ k, k < 5 → sRm σ2 i k = sRm σ i k) (h2 : sJn σ2 i = sJn σ i) : roomE σ2 i = roomE σ i := by
  unfold roomE
  rw [h 0 (by decide), h 1 (by decide), h 2 (by decide), h 3 (by decide), h 4 (by decide), h2]
theorem CD.mu {M : gM} {σ : Sg} {t : Nat} {e0 e : va_E} (hd : CD M σ) (h0 : M t = some e0) : CD (mu M t e) σ := fun u f hu => by
  obtain ⟨f', hf⟩ := mu_d h0 hu
  exact hd u f' hf
theorem LW.mu {E : gE} {g : Nat → Nat} {M : gM} {tl te base n t : Nat} {e : va_E} (h : LW E g M tl te base n) (h1 : t ≠ tl) (h2 : t ≠ te) : LW E g (mu M t e) tl te base n := by
  obtain ⟨mc, el, a1, a2, a3⟩ := h
  refine ⟨mc, el, by rw [mu_n (Ne.symm h1)]; exact a1, fun h0 => ⟨(a2 h0).1, by rw [mu_n (Ne.symm h2)]; exact (a2 h0).2⟩, fun h0 => ?_⟩
  obtain ⟨b1, f, b2, b3⟩ := a3 h0
  exact ⟨b1, f, by rw [mu_n (Ne.symm h2)]; exact b2, b3⟩
section
variable {E : gE} {g : Nat → Nat} {M : gM} {σ : Sg}
/-- a place's row, or another cell of no account -/
theorem CW.mu_p {t : Nat} {e : va_E} (hw : CW E g M σ) (h0 : 300 ≤ t) (h1 : t < 400) (hb : kR σ ≤ 10 ∧ kG σ ≤ 5 ∧ kU σ ≤ 12) : CW E g (mu M t e) σ := by
  obtain ⟨⟨a1, a2, a3, a4⟩, ⟨b1, b2, b3⟩, c1, c2, c3⟩ := hw
  refine ⟨⟨?_, a2.mu (by omega) (by omega), a3.mu (by omega) (by omega), a4.mu (by omega) (by omega)⟩, ⟨?_, ?_, ?_⟩, fun i hi => ?_, fun i hi => ?_, fun i hi => ?_⟩
  · rw [mu_n (by omega)]; exact a1
  · rw [mu_n (by omega)]; exact b1
  · rw [mu_n (by omega)]; exact b2
  · rw [mu_n (by omega)]; exact b3
  · rw [mu_n (by omega)]; exact c1 i hi
  · rw [mu_n (by omega)]; exact c2 i hi
  · rw [mu_n (by omega)]; exact c3 i hi
theorem CW.putU {u : Nat} {v : Nat → Nat → Int32} (hw : CW E g M σ) (hb : kR σ ≤ 10 ∧ kG σ ≤ 5 ∧ kU σ ≤ 12) (hu : u < kU σ) (hv : ∀ i, i ≠ u → ∀ k, k < 7 → v i k = sGu σ i k) : CW E g (mu M (400 + u) (guestE (σ.1, σ.2.1, v, σ.2.2.2) u)) (σ.1, σ.2.1, v, σ.2.2.2) := by
  obtain ⟨⟨a1, a2, a3, a4⟩, ⟨b1, b2, b3⟩, c1, c2, c3⟩ := hw
  refine ⟨⟨?_, a2.mu (by omega) (by omega), a3.mu (by omega) (by omega), a4.mu (by omega) (by omega)⟩, ⟨?_, ?_, ?_⟩, fun i (hi : i < kR σ) => ?_, fun i (hi : i < kG σ) => ?_, fun i (hi : i < kU σ) => ?_⟩
  · rw [mu_n (by omega)]; exact a1
  · rw [mu_n (by omega)]; exact b1
  · rw [mu_n (by omega)]; exact b2
  · rw [mu_n (by omega)]; exact b3
  · rw [mu_n (by omega)]; exact c1 i hi
  · rw [mu_n (by omega)]; exact c2 i hi
  · by_cases e : i = u
    · subst e; rw [mu_s]
    · rw [mu_n (by omega), c3 i hi, guestE_congr (σ := σ) (σ2 := (σ.1, σ.2.1, v, σ.2.2.2)) (fun k hk => hv i e k hk)]
theorem CW.putR {r : Nat} {v : Nat → Nat → Int32} {w : Nat → Int32} (hw : CW E g M σ) (hb : kR σ ≤ 10 ∧ kG σ ≤ 5 ∧ kU σ ≤ 12) (hr : r < kR σ) (hv : ∀ i, i ≠ r → ∀ k, k < 5 → v i k = sRm σ i k) (hj : ∀ i, i ≠ r → w i = sJn σ i) : CW E g (mu M (100 + r) (roomE (v, σ.2.1, σ.2.2.1, w, σ.2.2.2.2) r)) (v, σ.2.1, σ.2.2.1, w, σ.2.2.2.2) := by
  obtain ⟨⟨a1, a2, a3, a4⟩, ⟨b1, b2, b3⟩, c1, c2, c3⟩ := hw
  refine ⟨⟨?_, a2.mu (by omega) (by omega), a3.mu (by omega) (by omega), a4.mu (by omega) (by omega)⟩, ⟨?_, ?_, ?_⟩, fun i (hi : i < kR σ) => ?_, fun i (hi : i < kG σ) => ?_, fun i (hi : i < kU σ) => ?_⟩
  · rw [mu_n (by omega)]; exact a1
  · rw [mu_n (by omega)]; exact b1
  · rw [mu_n (by omega)]; exact b2
  · rw [mu_n (by omega)]; exact b3
  · by_cases e : i = r
    · subst e; rw [mu_s]
    · rw [mu_n (by omega), c1 i hi, roomE_congr (σ := σ) (σ2 := (v, σ.2.1, σ.2.2.1, w, σ.2.2.2.2)) (fun k hk => hv i e k hk) (hj i e)]
  · rw [mu_n (by omega)]; exact c2 i hi
  · rw [mu_n (by omega)]; exact c3 i hi
theorem CW.putX {d : Nat} {a b c : Int32} (hw : CW E g M σ) (hb : kR σ ≤ 10 ∧ kG σ ≤ 5 ∧ kU σ ≤ 12) : CW E g (mu M 0 (.inr (5, [.ref (g 1), .ref (g 2), .ref (g 3), .ref (g 4), .int (nI d), .int a, .int b, .int c]))) (σ.1, σ.2.1, σ.2.2.1, σ.2.2.2.1, (kR σ, kG σ, kU σ, d), (a, b, c)) := by
  obtain ⟨⟨a1, a2, a3, a4⟩, ⟨b1, b2, b3⟩, c1, c2, c3⟩ := hw
  refine ⟨⟨mu_s, a2.mu (by omega) (by omega), a3.mu (by omega) (by omega), a4.mu (by omega) (by omega)⟩, ⟨?_, ?_, ?_⟩, fun i (hi : i < kR σ) => ?_, fun i (hi : i < kG σ) => ?_, fun i (hi : i < kU σ) => ?_⟩
  · rw [mu_n (by omega)]; exact b1
  · rw [mu_n (by omega)]; exact b2
  · rw [mu_n (by omega)]; exact b3
  · rw [mu_n (by omega)]; exact c1 i hi
  · rw [mu_n (by omega)]; exact c2 i hi
  · rw [mu_n (by omega)]; exact c3 i hi
theorem PW.mu {σ2 : Sg} {t : Nat} {e : va_E} (hp : PW E M σ) (ht : t < 300 ∨ 400 ≤ t) (hb : kG σ ≤ 5) (h0 : kG σ2 = kG σ) (h1 : sGh σ2 = sGh σ) (h2 : sJn σ2 = sJn σ) : PW E (mu M t e) σ2 := by
  intro i hi
  rw [h0] at hi
  obtain ⟨f, a1, a2⟩ := hp i hi
  exact ⟨f, by rw [mu_n (by omega)]; exact a1, fun h hh => by rw [a2 h hh, plc_congr h1 h2]⟩
/-- the class's world, whole -/
def CX (E : gE) (g : Nat → Nat) (M : gM) (σ : Sg) : Prop := CW E g M σ ∧ PW E M σ ∧ CD M σ
theorem CX.putU {u : Nat} {v : Nat → Nat → Int32} (h : CX E g M σ) (hb : kR σ ≤ 10 ∧ kG σ ≤ 5 ∧ kU σ ≤ 12) (hu : u < kU σ) (hv : ∀ i, i ≠ u → ∀ k, k < 7 → v i k = sGu σ i k) : CX E g (mu M (400 + u) (guestE (σ.1, σ.2.1, v, σ.2.2.2) u)) (σ.1, σ.2.1, v, σ.2.2.2) :=
  ⟨h.1.putU hb hu hv, h.2.1.mu (Or.inr (by omega)) hb.2.1 rfl rfl rfl, h.2.2.mu (h.1.guest hu)⟩
theorem CX.putR {r : Nat} {v : Nat → Nat → Int32} (h : CX E g M σ) (hb : kR σ ≤ 10 ∧ kG σ ≤ 5 ∧ kU σ ≤ 12) (hr : r < kR σ) (hv : ∀ i, i ≠ r → ∀ k, k < 5 → v i k = sRm σ i k) : CX E g (mu M (100 + r) (roomE (v, σ.2) r)) (v, σ.2) :=
  ⟨h.1.putR (w := sJn σ) hb hr hv (fun _ _ => rfl), h.2.1.mu (Or.inl (by omega)) hb.2.1 rfl rfl rfl, h.2.2.mu (h.1.room hr)⟩
theorem CX.putX {d : Nat} {a b c : Int32} (h : CX E g M σ) (hb : kR σ ≤ 10 ∧ kG σ ≤ 5 ∧ kU σ ≤ 12) : CX E g (mu M 0 (.inr (5, [.ref (g 1), .ref (g 2), .ref (g 3), .ref (g 4), .int (nI d), .int a, .int b, .int c]))) (σ.1, σ.2.1, σ.2.2.1, σ.2.2.2.1, (kR σ, kG σ, kU σ, d), (a, b, c)) :=
  ⟨h.1.putX hb, h.2.1.mu (Or.inl (by omega)) hb.2.1 rfl rfl rfl, h.2.2.mu h.1.x⟩
end
