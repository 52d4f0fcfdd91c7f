theorem cpy_row {f f1 : Nat → Int32} {v : Nat → Nat → Int32} {a b i : Nat} {x : Nat → Int32} (h : ∀ r c, r < a → c < b → f1 (b * r + c) = v r c) (hx : ∀ c, c < b → f c = x c) (r c : Nat) (hr : r < a) (hc : c < b) : va_cpy f f1 0 (b * i) b (b * r + c) = if r = i then x c else v r c := by
  unfold va_cpy
  rcases Nat.lt_trichotomy r i with q | q | q
  · have h1 := Nat.mul_le_mul_left b (show r + 1 ≤ i from q)
    rw [Nat.mul_succ] at h1
    rw [if_neg (by omega), if_neg (by omega)]
    exact h r c hr hc
  · subst q
    rw [if_pos ⟨by omega, by omega⟩, if_pos rfl, show 0 + (b * r + c - b * r) = c by omega]
    exact hx c hc
  · have h1 := Nat.mul_le_mul_left b (show i + 1 ≤ r from q)
    rw [Nat.mul_succ] at h1
    rw [if_neg (by omega), if_neg (by omega)]
    exact h r c hr hc
theorem mP.out7 {E : gE} {A : Nat → Prop} {g : Nat → Nat} {M : gM} {H : Heap} {t q t1 : Nat} {e7 e1 : va_E} (h : mP E A (gu1 g t q) (mu (mu M t e7) t1 e1) H) (h0 : M t = none) (h1 : t1 ≠ t) : mP E A g (mu M t1 e1) H := by
  have hn : ∀ u e, mu M t1 e1 u = some e → u ≠ t := by
    intro u e hu hq
    subst hq
    rw [mu_n (Ne.symm h1), h0] at hu
    cases hu
  refine mP.cong (mP.drop h (M2 := mu M t1 e1) (fun u e hu => ?_)) (fun u e hu => ?_)
  · by_cases q1 : u = t1
    · subst q1; rw [mu_s] at hu ⊢; exact hu
    · rw [mu_n q1] at hu
      rw [mu_n q1, mu_n (hn u e (by rw [mu_n q1]; exact hu))]
      exact hu
  · rw [gu1_n (hn u e hu)]
theorem nI_p1 (k : Nat) : nI (k + 1) - 1 = nI k := by
  rw [← nI_1 k]
  exact Int32.add_sub_cancel (nI k) 1
/-- a new room's, ghost's, guest's numbers; the states with one more -/
def rowR (b c q : Int32) : Nat → Int32
  | 0 => b | 1 => c | 2 => q | _ => 0
def rowG (r f w b : Int32) : Nat → Int32
  | 0 => r | 1 => f | 2 => w | _ => b
def rowU (c n v : Int32) : Nat → Int32
  | 0 => c | 1 => n | 2 => v | 3 => -1 | _ => 0
def nw (f : Nat → Nat → Int32) (i : Nat) (x : Nat → Int32) : Nat → Nat → Int32 := fun r c => if r = i then x c else f r c
def fuS (σ : Sg) (b c q : Int32) : Sg := (nw (sRm σ) (kR σ) (rowR b c q), σ.2.1, σ.2.2.1, σ.2.2.2.1, (kR σ + 1, kG σ, kU σ, kD σ), σ.2.2.2.2.2)
def haS (σ : Sg) (r f w b : Int32) : Sg := (σ.1, nw (sGh σ) (kG σ) (rowG r f w b), σ.2.2.1, σ.2.2.2.1, (kR σ, kG σ + 1, kU σ, kD σ), σ.2.2.2.2.2)
def coS (σ : Sg) (c n v : Int32) : Sg := (σ.1, σ.2.1, nw (sGu σ) (kU σ) (rowU c n v), σ.2.2.2.1, (kR σ, kG σ, kU σ + 1, kD σ), σ.2.2.2.2.2)
theorem in_X5_furnish_X5 : ∀ w ∈ u_ws RX5 TX5 11, w ∈ wsX5_furnish := by decide +kernel
set_option maxHeartbeats 4000000 in
set_option maxRecDepth 100000 in
theorem m_furnishOk (l : Launch) (E : gE) (A : Nat → Prop) (g : Nat → Nat) (M : gM) (σ : Sg) (th : Int32) (hv : VS σ) (hw : MW E g M σ th) (xb xc xq : Int32) (hok : ((1 ≤ xb ∧ xb ≤ 6) ∧ (0 ≤ xc ∧ xc ≤ 9) ∧ (0 ≤ xq ∧ xq ≤ 100))) (hn : kR σ < 10) : Met l yX5_furnish wsX5_furnish ({ frames := 1, cells := 1, slots := 5, locals := 60 } : Room) (Pm E [.ref (g 0), .int xb, .int xc, .int xq] (fun H => mP E A g M H ∧ ∀ q : Nat, H.size ≤ q → A q)) (QW (some (.int (nI (kR σ)))) (fun H => ∃ M', mP E A g M' H ∧ MW E g M' (fuS σ xb xc xq) 0) A) 1 5 A := by
  refine m_entry (by decide) rfl (Nat.le_of_ble_eq_true rfl) ?_
  intro p e s m args below meth c hx hb hr hml hts hown hlocks hin hP hK ls hl
  have hl : lv_has ls 5 [(0, .ref (g 0)), (1, .int xb), (2, .int xc), (3, .int xq)] := hl
  have hown : s.vm.findClass RX5 = some m.cls := hown
  have hS : va_S A s.heap s.heap [] := va_S.rf
  skip
  obtain ⟨hM, hA⟩ := hP
  obtain ⟨⟨hR9, hG9, hU9, hD9⟩, -⟩ := id hv
  obtain ⟨f1, m1, hf1⟩ := MW.house hw
  obtain ⟨f2, m2, hf2⟩ := MW.joined hw
  obtain ⟨f3, m3, hf3⟩ := MW.spooks hw
  obtain ⟨f4, m4, hf4⟩ := MW.people hw
  obtain ⟨f5, m5, hf5⟩ := MW.numbers hw
  refine lv_aload_n hx hb dX5_furnish_0 rfl (lv_at hl 0 rfl) ?_
  refine lv_iconst (v := 0) hx hb dX5_furnish_1 (by decide) ?_
  refine m_put hx hb hts in_X5_furnish_X5 tyX5 tyX5_ok nmX5 hown hK hM hS (MW.x hw) rfl 0 (by decide) (by decide +kernel) rfl (tyX5_ok 0 (by decide)) rfl rfl (Nat.le_of_ble_eq_true rfl) dX5_furnish_2 (fun H locs hM hz hS => ?_)
  have hA := fun (q : Nat) (h : H.size ≤ q) => hA q (by omega)
  obtain ⟨M, hM, hw⟩ : ∃ M', mP E A g M' H ∧ MW E g M' σ 0 := ⟨_, hM, MW.setTh hw _⟩
  obtain ⟨⟨hR9, hG9, hU9, hD9⟩, -⟩ := id hv
  obtain ⟨f1, m1, hf1⟩ := MW.house hw
  obtain ⟨f2, m2, hf2⟩ := MW.joined hw
  obtain ⟨f3, m3, hf3⟩ := MW.spooks hw
  obtain ⟨f4, m4, hf4⟩ := MW.people hw
  obtain ⟨f5, m5, hf5⟩ := MW.numbers hw
  refine lv_iload_n hx hb dX5_furnish_5 rfl (lv_at hl 1 rfl) ?_
  refine lv_iconst (v := 1) hx hb dX5_furnish_6 (by decide) ?_
  refine lv_bipush (v := 6) hx hb dX5_furnish_7 (by decide) ?_
  refine m_cS 3 [.int xb, .int 1, .int 6] [] hx hb hml hown hts hK (c_isInY l E A g M xb 1 6 (hok.1)) gX5_furnish_X5_isIn rfl rfl rfl (by decide +kernel) rfl ⟨Nat.le_of_ble_eq_true rfl, Nat.le_of_ble_eq_true rfl⟩ trivial hl.1 (Nat.le_of_ble_eq_true rfl) ⟨Nat.le_of_ble_eq_true rfl, Nat.le_of_ble_eq_true rfl⟩ rfl dX5_furnish_9 ?_
  refine lv_if_eq (tgt := 35) hx hb dX5_furnish_12 (by decide) (fun c9 => absurd c9 (by decide)) (fun c9 => ?_)
  refine lv_iload_n hx hb dX5_furnish_15 rfl (lv_at hl 2 rfl) ?_
  refine lv_iconst (v := 0) hx hb dX5_furnish_16 (by decide) ?_
  refine lv_bipush (v := 9) hx hb dX5_furnish_17 (by decide) ?_
  refine m_cS 3 [.int xc, .int 0, .int 9] [] hx hb hml hown hts hK (c_isInY l E A g M xc 0 9 (hok.2.1)) gX5_furnish_X5_isIn rfl rfl rfl (by decide +kernel) rfl ⟨Nat.le_of_ble_eq_true rfl, Nat.le_of_ble_eq_true rfl⟩ trivial hl.1 (Nat.le_of_ble_eq_true rfl) ⟨Nat.le_of_ble_eq_true rfl, Nat.le_of_ble_eq_true rfl⟩ rfl dX5_furnish_19 ?_
  refine lv_if_eq (tgt := 35) hx hb dX5_furnish_22 (by decide) (fun c9 => absurd c9 (by decide)) (fun c9 => ?_)
  refine lv_iload_n hx hb dX5_furnish_25 rfl (lv_at hl 3 rfl) ?_
  refine lv_iconst (v := 0) hx hb dX5_furnish_26 (by decide) ?_
  refine lv_bipush (v := 100) hx hb dX5_furnish_27 (by decide) ?_
  refine m_cS 3 [.int xq, .int 0, .int 100] [] hx hb hml hown hts hK (c_isInY l E A g M xq 0 100 (hok.2.2)) gX5_furnish_X5_isIn rfl rfl rfl (by decide +kernel) rfl ⟨Nat.le_of_ble_eq_true rfl, Nat.le_of_ble_eq_true rfl⟩ trivial hl.1 (Nat.le_of_ble_eq_true rfl) ⟨Nat.le_of_ble_eq_true rfl, Nat.le_of_ble_eq_true rfl⟩ rfl dX5_furnish_29 ?_
  refine lv_if_ne (tgt := 41) hx hb dX5_furnish_32 (by decide) (fun c9 => ?_) (fun c9 => absurd c9 (by decide))
  refine lv_aload_n hx hb dX5_furnish_41 rfl (lv_at hl 0 rfl) ?_
  refine m_get hx hb hts in_X5_furnish_X5 hown hK hM (MW.x hw) rfl 1 (by decide) (by decide +kernel) rfl dX5_furnish_42 ?_
  refine lv_bipush (v := 10) hx hb dX5_furnish_45 (by decide) ?_
  refine lv_icmp_ne (tgt := 56) hx hb dX5_furnish_47 (by decide) (fun c47 => ?_) (fun c9 => absurd ((nI_eq (b := 10) (by omega) (by decide)).mp c9) (by omega))
  refine lv_iconst (v := 5) hx hb dX5_furnish_56 (by decide) ?_
  obtain ⟨q7, hq7⟩ : ∃ q, q = H.size := ⟨_, rfl⟩
  have n7 := MW.dom hw 7 (Nat.le_refl 7)
  refine m_newa hx hb hts (by decide +kernel) hK hM hS hA 7 (n7) 5 (by decide) (by decide) (by decide) (Nat.le_of_ble_eq_true rfl) (Nat.le_of_ble_eq_true rfl) dX5_furnish_57 (fun H hM hz ho hS => ?_)
  rw [← hq7] at hM ⊢
  refine lv_dup hx hb dX5_furnish_59 rfl ?_
  refine lv_iconst (v := 0) hx hb dX5_furnish_60 (by decide) ?_
  refine lv_iload_n hx hb dX5_furnish_61 rfl (lv_at hl 1 rfl) ?_
  refine m_iast hx hb hK hM hS mu_s (ix_ok (n := 0) ⟨by decide, by decide⟩) dX5_furnish_62 (fun H locs hM hz hS => ?_)
  rw [mu_mu] at hM
  refine lv_dup hx hb dX5_furnish_63 rfl ?_
  refine lv_iconst (v := 1) hx hb dX5_furnish_64 (by decide) ?_
  refine lv_iload_n hx hb dX5_furnish_65 rfl (lv_at hl 2 rfl) ?_
  refine m_iast hx hb hK hM hS mu_s (ix_ok (n := 1) ⟨by decide, by decide⟩) dX5_furnish_66 (fun H locs hM hz hS => ?_)
  rw [mu_mu] at hM
  refine lv_dup hx hb dX5_furnish_67 rfl ?_
  refine lv_iconst (v := 2) hx hb dX5_furnish_68 (by decide) ?_
  refine lv_iload_n hx hb dX5_furnish_69 rfl (lv_at hl 3 rfl) ?_
  refine m_iast hx hb hK hM hS mu_s (ix_ok (n := 2) ⟨by decide, by decide⟩) dX5_furnish_70 (fun H locs hM hz hS => ?_)
  rw [mu_mu] at hM
  refine lv_dup hx hb dX5_furnish_71 rfl ?_
  refine lv_iconst (v := 3) hx hb dX5_furnish_72 (by decide) ?_
  refine lv_iconst (v := 0) hx hb dX5_furnish_73 (by decide) ?_
  refine m_iast hx hb hK hM hS mu_s (ix_ok (n := 3) ⟨by decide, by decide⟩) dX5_furnish_74 (fun H locs hM hz hS => ?_)
  rw [mu_mu] at hM
  refine lv_dup hx hb dX5_furnish_75 rfl ?_
  refine lv_iconst (v := 4) hx hb dX5_furnish_76 (by decide) ?_
  refine lv_iconst (v := 0) hx hb dX5_furnish_77 (by decide) ?_
  refine m_iast hx hb hK hM hS mu_s (ix_ok (n := 4) ⟨by decide, by decide⟩) dX5_furnish_78 (fun H locs hM hz hS => ?_)
  rw [mu_mu] at hM
  refine lv_astore (lv' := [(4, .ref (gu1 g 7 q7 7)), (0, .ref (g 0)), (1, .int xb), (2, .int xc), (3, .int xq)]) hx hb dX5_furnish_79 hl (by decide) rfl (fun ls hl => ?_)
  refine lv_aload hx hb dX5_furnish_81 (lv_at hl 0 rfl) ?_
  refine lv_iconst (v := 0) hx hb dX5_furnish_83 (by decide) ?_
  refine lv_aload_n hx hb dX5_furnish_84 rfl (lv_at hl 1 rfl) ?_
  refine W.eq (g2 := F0 m 85 ls [.ref (gu1 g 7 q7 0), .int 0, .ref (gu1 g 7 q7 7)]) rfl ?_
  refine m_get hx hb hts in_X5_furnish_X5 hown hK hM ((mu_n (u := 0) (t := 7) (by decide)).trans (MW.x hw)) rfl 5 (by decide) (by decide +kernel) rfl dX5_furnish_85 ?_
  refine lv_iconst (v := 5) hx hb dX5_furnish_88 (by decide) ?_
  refine lv_aload_n hx hb dX5_furnish_89 rfl (lv_at hl 1 rfl) ?_
  refine W.eq (g2 := F0 m 90 ls [.ref (gu1 g 7 q7 0), .int 5, .ref (g 1), .int 0, .ref (gu1 g 7 q7 7)]) rfl ?_
  refine m_get hx hb hts in_X5_furnish_X5 hown hK hM ((mu_n (u := 0) (t := 7) (by decide)).trans (MW.x hw)) rfl 1 (by decide) (by decide +kernel) rfl dX5_furnish_90 ?_
  refine lv_imul hx hb dX5_furnish_93 ?_
  refine W.eq (g2 := F0 m 94 ls [.int (5 * (nI (kR σ))), .ref (g 1), .int 0, .ref (gu1 g 7 q7 7)]) rfl ?_
  rw [show (5 * (nI (kR σ)) : Int32) = nI (5 * kR σ) from pk_mul _ _]
  refine lv_iconst (v := 5) hx hb dX5_furnish_94 (by decide) ?_
  refine W.eq (g2 := F0 m 95 ls [.int 5, .int (nI (5 * kR σ)), .ref (gu1 g 7 q7 1), .int 0, .ref (gu1 g 7 q7 7)]) rfl ?_
  refine m_copyi (t0 := 7) (t1 := 1) (n0 := 5) hx hb (hml.trans hl.1.symm) hown hts (by decide +kernel) (by decide +kernel) (by decide +kernel) (by decide +kernel) hK hM hS mu_s ((mu_n (by decide)).trans m1) (by decide) (nI_pos (by omega)) (by decide) (by decide) (by rw [nI_clamp (by omega)]; show 5 * kR σ + 5 ≤ 50; omega) (Nat.le_of_ble_eq_true rfl) (Nat.le_of_ble_eq_true rfl) dX5_furnish_95 (fun H locs hM hz hS => ?_)
  have hM := mP.out7 hM n7 (by decide)
  rw [nI_clamp (show 5 * kR σ < 2 ^ 31 by omega)] at hM
  obtain ⟨M, hM, hw⟩ : ∃ M', mP E A g M' H ∧ MW E g M' (nw (sRm σ) (kR σ) (rowR xb xc xq), σ.2) 0 := ⟨_, hM, MW.putR (σ2 := (nw (sRm σ) (kR σ) (rowR xb xc xq), σ.2)) hw rfl (cpy_row (x := rowR xb xc xq) hf1 (fun c hc => by rcases (show c = 0 ∨ c = 1 ∨ c = 2 ∨ c = 3 ∨ c = 4 by omega) with rfl | rfl | rfl | rfl | rfl <;> rfl))⟩
  obtain ⟨⟨hR9, hG9, hU9, hD9⟩, -⟩ := id hv
  obtain ⟨f1, m1, hf1⟩ := MW.house hw
  obtain ⟨f2, m2, hf2⟩ := MW.joined hw
  obtain ⟨f3, m3, hf3⟩ := MW.spooks hw
  obtain ⟨f4, m4, hf4⟩ := MW.people hw
  obtain ⟨f5, m5, hf5⟩ := MW.numbers hw
  refine W.eq (g2 := F0 m 98 ls []) rfl ?_
  refine lv_aload_n hx hb dX5_furnish_98 rfl (lv_at hl 1 rfl) ?_
  refine lv_dup hx hb dX5_furnish_99 rfl ?_
  refine m_get hx hb hts in_X5_furnish_X5 hown hK hM (MW.x hw) rfl 1 (by decide) (by decide +kernel) rfl dX5_furnish_100 ?_
  refine lv_iconst (v := 1) hx hb dX5_furnish_103 (by decide) ?_
  refine lv_iadd hx hb dX5_furnish_104 ?_
  refine W.eq (g2 := F0 m 105 ls [.int ((nI (kR σ)) + 1), .ref (g 0)]) rfl ?_
  rw [show ((nI (kR σ)) + 1 : Int32) = nI (kR σ + 1) from nI_1 _]
  refine m_put hx hb hts in_X5_furnish_X5 tyX5 tyX5_ok nmX5 hown hK hM hS (MW.x hw) rfl 1 (by decide) (by decide +kernel) rfl (tyX5_ok 1 (by decide)) rfl rfl (Nat.le_of_ble_eq_true rfl) dX5_furnish_105 (fun H locs hM hz hS => ?_)
  obtain ⟨M, hM, hw⟩ : ∃ M', mP E A g M' H ∧ MW E g M' (fuS σ xb xc xq) 0 := ⟨_, hM, MW.put0 (σ2 := fuS σ xb xc xq) (th2 := 0) hw rfl rfl rfl rfl rfl rfl rfl⟩
  obtain ⟨⟨hR9, hG9, hU9, hD9⟩, -⟩ := id hv
  obtain ⟨f1, m1, hf1⟩ := MW.house hw
  obtain ⟨f2, m2, hf2⟩ := MW.joined hw
  obtain ⟨f3, m3, hf3⟩ := MW.spooks hw
  obtain ⟨f4, m4, hf4⟩ := MW.people hw
  obtain ⟨f5, m5, hf5⟩ := MW.numbers hw
  refine lv_aload_n hx hb dX5_furnish_108 rfl (lv_at hl 1 rfl) ?_
  refine m_get hx hb hts in_X5_furnish_X5 hown hK hM (MW.x hw) rfl 1 (by decide) (by decide +kernel) rfl dX5_furnish_109 ?_
  refine lv_iconst (v := 1) hx hb dX5_furnish_112 (by decide) ?_
  refine lv_isub hx hb dX5_furnish_113 ?_
  refine W.eq (g2 := F0 m 114 ls [.int ((nI (kR σ + 1)) - 1)]) rfl ?_
  rw [show ((nI (kR σ + 1)) - 1 : Int32) = nI (kR σ) from nI_p1 _]
  exact w_i hx hb hr hlocks dX5_furnish_114 hS (Nat.le_of_ble_eq_true rfl) (Nat.le_of_ble_eq_true rfl) (by first | rfl | assumption) (⟨_, hM, hw⟩)
set_option maxHeartbeats 4000000 in
set_option maxRecDepth 100000 in
theorem m_furnishB (l : Launch) (E : gE) (A : Nat → Prop) (g : Nat → Nat) (M : gM) (σ : Sg) (th : Int32) (hv : VS σ) (hw : MW E g M σ th) (xb xc xq : Int32) (hbad : ¬ ((1 ≤ xb ∧ xb ≤ 6) ∧ (0 ≤ xc ∧ xc ≤ 9) ∧ (0 ≤ xq ∧ xq ≤ 100))) : Met l yX5_furnish wsX5_furnish ({ frames := 1, cells := 0, slots := 0, locals := 22 } : Room) (Pm E [.ref (g 0), .int xb, .int xc, .int xq] (mP E A g M)) (QW (some (.int 0)) (fun H => ∃ M', mP E A g M' H ∧ MW E g M' σ 1) A) 0 0 A := by
  refine m_entry (by decide) rfl (Nat.le_of_ble_eq_true rfl) ?_
  intro p e s m args below meth c hx hb hr hml hts hown hlocks hin hM hK ls hl
  have hl : lv_has ls 5 [(0, .ref (g 0)), (1, .int xb), (2, .int xc), (3, .int xq)] := hl
  have hown : s.vm.findClass RX5 = some m.cls := hown
  have hS : va_S A s.heap s.heap [] := va_S.rf
  skip
  obtain ⟨⟨hR9, hG9, hU9, hD9⟩, -⟩ := id hv
  obtain ⟨f1, m1, hf1⟩ := MW.house hw
  obtain ⟨f2, m2, hf2⟩ := MW.joined hw
  obtain ⟨f3, m3, hf3⟩ := MW.spooks hw
  obtain ⟨f4, m4, hf4⟩ := MW.people hw
  obtain ⟨f5, m5, hf5⟩ := MW.numbers hw
  refine lv_aload_n hx hb dX5_furnish_0 rfl (lv_at hl 0 rfl) ?_
  refine lv_iconst (v := 0) hx hb dX5_furnish_1 (by decide) ?_
  refine m_put hx hb hts in_X5_furnish_X5 tyX5 tyX5_ok nmX5 hown hK hM hS (MW.x hw) rfl 0 (by decide) (by decide +kernel) rfl (tyX5_ok 0 (by decide)) rfl rfl (Nat.le_of_ble_eq_true rfl) dX5_furnish_2 (fun H locs hM hz hS => ?_)
  obtain ⟨M, hM, hw⟩ : ∃ M', mP E A g M' H ∧ MW E g M' σ 0 := ⟨_, hM, MW.setTh hw _⟩
  obtain ⟨f1, m1, hf1⟩ := MW.house hw
  obtain ⟨f2, m2, hf2⟩ := MW.joined hw
  obtain ⟨f3, m3, hf3⟩ := MW.spooks hw
  obtain ⟨f4, m4, hf4⟩ := MW.people hw
  obtain ⟨f5, m5, hf5⟩ := MW.numbers hw
  refine lv_iload_n hx hb dX5_furnish_5 rfl (lv_at hl 1 rfl) ?_
  refine lv_iconst (v := 1) hx hb dX5_furnish_6 (by decide) ?_
  refine lv_bipush (v := 6) hx hb dX5_furnish_7 (by decide) ?_
  refine m_cS 3 [.int xb, .int 1, .int 6] [] hx hb hml hown hts hK (c_isIn l E A g M xb 1 6) gX5_furnish_X5_isIn rfl rfl rfl (by decide +kernel) rfl ⟨Nat.le_of_ble_eq_true rfl, Nat.le_of_ble_eq_true rfl⟩ trivial hl.1 (Nat.le_of_ble_eq_true rfl) ⟨Nat.le_of_ble_eq_true rfl, Nat.le_of_ble_eq_true rfl⟩ rfl dX5_furnish_9 ?_
  refine lv_if_eq (tgt := 35) hx hb dX5_furnish_12 (by decide) (fun c12 => ?_) (fun c12 => ?_)
  · have c12 := of_decide_eq_false (bI_f c12)
    refine lv_aload_n hx hb dX5_furnish_35 rfl (lv_at hl 0 rfl) ?_
    refine lv_iconst (v := 1) hx hb dX5_furnish_36 (by decide) ?_
    refine m_wV 1 [.int 1] [] hx hb hml hown hts hK (c_fail l E A g M σ 0 hw 1) gX5_furnish_X5_fail rfl rfl rfl (by decide +kernel) rfl ⟨Nat.le_of_ble_eq_true rfl, Nat.le_of_ble_eq_true rfl⟩ hM (MW.x hw) rfl rfl hM hl.1 (Nat.le_of_ble_eq_true rfl) ⟨Nat.le_of_ble_eq_true rfl, Nat.le_of_ble_eq_true rfl⟩ rfl dX5_furnish_37 hS (fun _ _ h => h) (fun _ h => h) (fun H locs hQ hz hk hS => ?_)
    refine W.eq (g2 := F0 m 40 ls [.int 0]) rfl ?_
    obtain ⟨M, hM, hw⟩ := hQ
    obtain ⟨f1, m1, hf1⟩ := MW.house hw
    obtain ⟨f2, m2, hf2⟩ := MW.joined hw
    obtain ⟨f3, m3, hf3⟩ := MW.spooks hw
    obtain ⟨f4, m4, hf4⟩ := MW.people hw
    obtain ⟨f5, m5, hf5⟩ := MW.numbers hw
    exact w_i hx hb hr hlocks dX5_furnish_40 hS (Nat.le_of_ble_eq_true rfl) (Nat.le_of_ble_eq_true rfl) (by first | rfl | assumption) (⟨_, hM, hw⟩)
  · have c12 := of_decide_eq_true (bI_t c12)
    refine lv_iload_n hx hb dX5_furnish_15 rfl (lv_at hl 2 rfl) ?_
    refine lv_iconst (v := 0) hx hb dX5_furnish_16 (by decide) ?_
    refine lv_bipush (v := 9) hx hb dX5_furnish_17 (by decide) ?_
    refine m_cS 3 [.int xc, .int 0, .int 9] [] hx hb hml hown hts hK (c_isIn l E A g M xc 0 9) gX5_furnish_X5_isIn rfl rfl rfl (by decide +kernel) rfl ⟨Nat.le_of_ble_eq_true rfl, Nat.le_of_ble_eq_true rfl⟩ trivial hl.1 (Nat.le_of_ble_eq_true rfl) ⟨Nat.le_of_ble_eq_true rfl, Nat.le_of_ble_eq_true rfl⟩ rfl dX5_furnish_19 ?_
    refine lv_if_eq (tgt := 35) hx hb dX5_furnish_22 (by decide) (fun c22 => ?_) (fun c22 => ?_)
    · have c22 := of_decide_eq_false (bI_f c22)
      refine lv_aload_n hx hb dX5_furnish_35 rfl (lv_at hl 0 rfl) ?_
      refine lv_iconst (v := 1) hx hb dX5_furnish_36 (by decide) ?_
      refine m_wV 1 [.int 1] [] hx hb hml hown hts hK (c_fail l E A g M σ 0 hw 1) gX5_furnish_X5_fail rfl rfl rfl (by decide +kernel) rfl ⟨Nat.le_of_ble_eq_true rfl, Nat.le_of_ble_eq_true rfl⟩ hM (MW.x hw) rfl rfl hM hl.1 (Nat.le_of_ble_eq_true rfl) ⟨Nat.le_of_ble_eq_true rfl, Nat.le_of_ble_eq_true rfl⟩ rfl dX5_furnish_37 hS (fun _ _ h => h) (fun _ h => h) (fun H locs hQ hz hk hS => ?_)
      refine W.eq (g2 := F0 m 40 ls [.int 0]) rfl ?_
      obtain ⟨M, hM, hw⟩ := hQ
      obtain ⟨f1, m1, hf1⟩ := MW.house hw
      obtain ⟨f2, m2, hf2⟩ := MW.joined hw
      obtain ⟨f3, m3, hf3⟩ := MW.spooks hw
      obtain ⟨f4, m4, hf4⟩ := MW.people hw
      obtain ⟨f5, m5, hf5⟩ := MW.numbers hw
      exact w_i hx hb hr hlocks dX5_furnish_40 hS (Nat.le_of_ble_eq_true rfl) (Nat.le_of_ble_eq_true rfl) (by first | rfl | assumption) (⟨_, hM, hw⟩)
    · have c22 := of_decide_eq_true (bI_t c22)
      refine lv_iload_n hx hb dX5_furnish_25 rfl (lv_at hl 3 rfl) ?_
      refine lv_iconst (v := 0) hx hb dX5_furnish_26 (by decide) ?_
      refine lv_bipush (v := 100) hx hb dX5_furnish_27 (by decide) ?_
      refine m_cS 3 [.int xq, .int 0, .int 100] [] hx hb hml hown hts hK (c_isIn l E A g M xq 0 100) gX5_furnish_X5_isIn rfl rfl rfl (by decide +kernel) rfl ⟨Nat.le_of_ble_eq_true rfl, Nat.le_of_ble_eq_true rfl⟩ trivial hl.1 (Nat.le_of_ble_eq_true rfl) ⟨Nat.le_of_ble_eq_true rfl, Nat.le_of_ble_eq_true rfl⟩ rfl dX5_furnish_29 ?_
      refine lv_if_ne (tgt := 41) hx hb dX5_furnish_32 (by decide) (fun c9 => absurd ⟨c12, c22, of_decide_eq_true (bI_t c9)⟩ hbad) (fun c32 => ?_)
      have c32 := of_decide_eq_false (bI_f c32)
      refine lv_aload_n hx hb dX5_furnish_35 rfl (lv_at hl 0 rfl) ?_
      refine lv_iconst (v := 1) hx hb dX5_furnish_36 (by decide) ?_
      refine m_wV 1 [.int 1] [] hx hb hml hown hts hK (c_fail l E A g M σ 0 hw 1) gX5_furnish_X5_fail rfl rfl rfl (by decide +kernel) rfl ⟨Nat.le_of_ble_eq_true rfl, Nat.le_of_ble_eq_true rfl⟩ hM (MW.x hw) rfl rfl hM hl.1 (Nat.le_of_ble_eq_true rfl) ⟨Nat.le_of_ble_eq_true rfl, Nat.le_of_ble_eq_true rfl⟩ rfl dX5_furnish_37 hS (fun _ _ h => h) (fun _ h => h) (fun H locs hQ hz hk hS => ?_)
      refine W.eq (g2 := F0 m 40 ls [.int 0]) rfl ?_
      obtain ⟨M, hM, hw⟩ := hQ
      obtain ⟨f1, m1, hf1⟩ := MW.house hw
      obtain ⟨f2, m2, hf2⟩ := MW.joined hw
      obtain ⟨f3, m3, hf3⟩ := MW.spooks hw
      obtain ⟨f4, m4, hf4⟩ := MW.people hw
      obtain ⟨f5, m5, hf5⟩ := MW.numbers hw
      exact w_i hx hb hr hlocks dX5_furnish_40 hS (Nat.le_of_ble_eq_true rfl) (Nat.le_of_ble_eq_true rfl) (by first | rfl | assumption) (⟨_, hM, hw⟩)
set_option maxHeartbeats 4000000 in
set_option maxRecDepth 100000 in
theorem m_furnishF (l : Launch) (E : gE) (A : Nat → Prop) (g : Nat → Nat) (M : gM) (σ : Sg) (th : Int32) (hv : VS σ) (hw : MW E g M σ th) (xb xc xq : Int32) (hok : ((1 ≤ xb ∧ xb ≤ 6) ∧ (0 ≤ xc ∧ xc ≤ 9) ∧ (0 ≤ xq ∧ xq ≤ 100))) (hfull : kR σ = 10) : Met l yX5_furnish wsX5_furnish ({ frames := 1, cells := 0, slots := 0, locals := 22 } : Room) (Pm E [.ref (g 0), .int xb, .int xc, .int xq] (mP E A g M)) (QW (some (.int 0)) (fun H => ∃ M', mP E A g M' H ∧ MW E g M' σ 2) A) 0 0 A := by
  refine m_entry (by decide) rfl (Nat.le_of_ble_eq_true rfl) ?_
  intro p e s m args below meth c hx hb hr hml hts hown hlocks hin hM hK ls hl
  have hl : lv_has ls 5 [(0, .ref (g 0)), (1, .int xb), (2, .int xc), (3, .int xq)] := hl
  have hown : s.vm.findClass RX5 = some m.cls := hown
  have hS : va_S A s.heap s.heap [] := va_S.rf
  skip
  obtain ⟨⟨hR9, hG9, hU9, hD9⟩, -⟩ := id hv
  obtain ⟨f1, m1, hf1⟩ := MW.house hw
  obtain ⟨f2, m2, hf2⟩ := MW.joined hw
  obtain ⟨f3, m3, hf3⟩ := MW.spooks hw
  obtain ⟨f4, m4, hf4⟩ := MW.people hw
  obtain ⟨f5, m5, hf5⟩ := MW.numbers hw
  refine lv_aload_n hx hb dX5_furnish_0 rfl (lv_at hl 0 rfl) ?_
  refine lv_iconst (v := 0) hx hb dX5_furnish_1 (by decide) ?_
  refine m_put hx hb hts in_X5_furnish_X5 tyX5 tyX5_ok nmX5 hown hK hM hS (MW.x hw) rfl 0 (by decide) (by decide +kernel) rfl (tyX5_ok 0 (by decide)) rfl rfl (Nat.le_of_ble_eq_true rfl) dX5_furnish_2 (fun H locs hM hz hS => ?_)
  obtain ⟨M, hM, hw⟩ : ∃ M', mP E A g M' H ∧ MW E g M' σ 0 := ⟨_, hM, MW.setTh hw _⟩
  obtain ⟨f1, m1, hf1⟩ := MW.house hw
  obtain ⟨f2, m2, hf2⟩ := MW.joined hw
  obtain ⟨f3, m3, hf3⟩ := MW.spooks hw
  obtain ⟨f4, m4, hf4⟩ := MW.people hw
  obtain ⟨f5, m5, hf5⟩ := MW.numbers hw
  refine lv_iload_n hx hb dX5_furnish_5 rfl (lv_at hl 1 rfl) ?_
  refine lv_iconst (v := 1) hx hb dX5_furnish_6 (by decide) ?_
  refine lv_bipush (v := 6) hx hb dX5_furnish_7 (by decide) ?_
  refine m_cS 3 [.int xb, .int 1, .int 6] [] hx hb hml hown hts hK (c_isInY l E A g M xb 1 6 (hok.1)) gX5_furnish_X5_isIn rfl rfl rfl (by decide +kernel) rfl ⟨Nat.le_of_ble_eq_true rfl, Nat.le_of_ble_eq_true rfl⟩ trivial hl.1 (Nat.le_of_ble_eq_true rfl) ⟨Nat.le_of_ble_eq_true rfl, Nat.le_of_ble_eq_true rfl⟩ rfl dX5_furnish_9 ?_
  refine lv_if_eq (tgt := 35) hx hb dX5_furnish_12 (by decide) (fun c9 => absurd c9 (by decide)) (fun c9 => ?_)
  refine lv_iload_n hx hb dX5_furnish_15 rfl (lv_at hl 2 rfl) ?_
  refine lv_iconst (v := 0) hx hb dX5_furnish_16 (by decide) ?_
  refine lv_bipush (v := 9) hx hb dX5_furnish_17 (by decide) ?_
  refine m_cS 3 [.int xc, .int 0, .int 9] [] hx hb hml hown hts hK (c_isInY l E A g M xc 0 9 (hok.2.1)) gX5_furnish_X5_isIn rfl rfl rfl (by decide +kernel) rfl ⟨Nat.le_of_ble_eq_true rfl, Nat.le_of_ble_eq_true rfl⟩ trivial hl.1 (Nat.le_of_ble_eq_true rfl) ⟨Nat.le_of_ble_eq_true rfl, Nat.le_of_ble_eq_true rfl⟩ rfl dX5_furnish_19 ?_
  refine lv_if_eq (tgt := 35) hx hb dX5_furnish_22 (by decide) (fun c9 => absurd c9 (by decide)) (fun c9 => ?_)
  refine lv_iload_n hx hb dX5_furnish_25 rfl (lv_at hl 3 rfl) ?_
  refine lv_iconst (v := 0) hx hb dX5_furnish_26 (by decide) ?_
  refine lv_bipush (v := 100) hx hb dX5_furnish_27 (by decide) ?_
  refine m_cS 3 [.int xq, .int 0, .int 100] [] hx hb hml hown hts hK (c_isInY l E A g M xq 0 100 (hok.2.2)) gX5_furnish_X5_isIn rfl rfl rfl (by decide +kernel) rfl ⟨Nat.le_of_ble_eq_true rfl, Nat.le_of_ble_eq_true rfl⟩ trivial hl.1 (Nat.le_of_ble_eq_true rfl) ⟨Nat.le_of_ble_eq_true rfl, Nat.le_of_ble_eq_true rfl⟩ rfl dX5_furnish_29 ?_
  refine lv_if_ne (tgt := 41) hx hb dX5_furnish_32 (by decide) (fun c9 => ?_) (fun c9 => absurd c9 (by decide))
  refine lv_aload_n hx hb dX5_furnish_41 rfl (lv_at hl 0 rfl) ?_
  refine m_get hx hb hts in_X5_furnish_X5 hown hK hM (MW.x hw) rfl 1 (by decide) (by decide +kernel) rfl dX5_furnish_42 ?_
  refine lv_bipush (v := 10) hx hb dX5_furnish_45 (by decide) ?_
  refine lv_icmp_ne (tgt := 56) hx hb dX5_furnish_47 (by decide) (fun c9 => absurd (by rw [hfull]; rfl) c9) (fun c47 => ?_)
  refine lv_aload_n hx hb dX5_furnish_50 rfl (lv_at hl 0 rfl) ?_
  refine lv_iconst (v := 2) hx hb dX5_furnish_51 (by decide) ?_
  refine m_wV 1 [.int 2] [] hx hb hml hown hts hK (c_fail l E A g M σ 0 hw 2) gX5_furnish_X5_fail rfl rfl rfl (by decide +kernel) rfl ⟨Nat.le_of_ble_eq_true rfl, Nat.le_of_ble_eq_true rfl⟩ hM (MW.x hw) rfl rfl hM hl.1 (Nat.le_of_ble_eq_true rfl) ⟨Nat.le_of_ble_eq_true rfl, Nat.le_of_ble_eq_true rfl⟩ rfl dX5_furnish_52 hS (fun _ _ h => h) (fun _ h => h) (fun H locs hQ hz hk hS => ?_)
  refine W.eq (g2 := F0 m 55 ls [.int 0]) rfl ?_
  obtain ⟨M, hM, hw⟩ := hQ
  obtain ⟨f1, m1, hf1⟩ := MW.house hw
  obtain ⟨f2, m2, hf2⟩ := MW.joined hw
  obtain ⟨f3, m3, hf3⟩ := MW.spooks hw
  obtain ⟨f4, m4, hf4⟩ := MW.people hw
  obtain ⟨f5, m5, hf5⟩ := MW.numbers hw
  exact w_i hx hb hr hlocks dX5_furnish_55 hS (Nat.le_of_ble_eq_true rfl) (Nat.le_of_ble_eq_true rfl) (by first | rfl | assumption) (⟨_, hM, hw⟩)
theorem in_X5_haunt_X5 : ∀ w ∈ u_ws RX5 TX5 11, w ∈ wsX5_haunt := by decide +kernel
set_option maxHeartbeats 4000000 in
set_option maxRecDepth 100000 in
theorem m_hauntOk (l : Launch) (E : gE) (A : Nat → Prop) (g : Nat → Nat) (M : gM) (σ : Sg) (th : Int32) (hv : VS σ) (hw : MW E g M σ th) (k : Nat) (hk : k < kR σ) (xf xw xb : Int32) (hok : ((1 ≤ xf ∧ xf ≤ 9) ∧ (0 ≤ xw ∧ xw ≤ 11) ∧ xw < xb ∧ xb ≤ 12)) (hn : kG σ < 5) : Met l yX5_haunt wsX5_haunt ({ frames := 2, cells := 1, slots := 4, locals := 60 } : Room) (Pm E [.ref (g 0), .int (nI k), .int xf, .int xw, .int xb] (fun H => mP E A g M H ∧ ∀ q : Nat, H.size ≤ q → A q)) (QW (some (.int (nI (kG σ)))) (fun H => ∃ M', mP E A g M' H ∧ MW E g M' (haS σ (nI k) xf xw xb) 0) A) 1 4 A := by
  refine m_entry (by decide) rfl (Nat.le_of_ble_eq_true rfl) ?_
  intro p e s m args below meth c hx hb hr hml hts hown hlocks hin hP hK ls hl
  have hl : lv_has ls 6 [(0, .ref (g 0)), (1, .int (nI k)), (2, .int xf), (3, .int xw), (4, .int xb)] := hl
  have hown : s.vm.findClass RX5 = some m.cls := hown
  have hS : va_S A s.heap s.heap [] := va_S.rf
  skip
  obtain ⟨hM, hA⟩ := hP
  obtain ⟨⟨hR9, hG9, hU9, hD9⟩, -⟩ := id hv
  obtain ⟨f1, m1, hf1⟩ := MW.house hw
  obtain ⟨f2, m2, hf2⟩ := MW.joined hw
  obtain ⟨f3, m3, hf3⟩ := MW.spooks hw
  obtain ⟨f4, m4, hf4⟩ := MW.people hw
  obtain ⟨f5, m5, hf5⟩ := MW.numbers hw
  refine lv_aload_n hx hb dX5_haunt_0 rfl (lv_at hl 0 rfl) ?_
  refine lv_iconst (v := 0) hx hb dX5_haunt_1 (by decide) ?_
  refine m_put hx hb hts in_X5_haunt_X5 tyX5 tyX5_ok nmX5 hown hK hM hS (MW.x hw) rfl 0 (by decide) (by decide +kernel) rfl (tyX5_ok 0 (by decide)) rfl rfl (Nat.le_of_ble_eq_true rfl) dX5_haunt_2 (fun H locs hM hz hS => ?_)
  have hA := fun (q : Nat) (h : H.size ≤ q) => hA q (by omega)
  obtain ⟨M, hM, hw⟩ : ∃ M', mP E A g M' H ∧ MW E g M' σ 0 := ⟨_, hM, MW.setTh hw _⟩
  obtain ⟨⟨hR9, hG9, hU9, hD9⟩, -⟩ := id hv
  obtain ⟨f1, m1, hf1⟩ := MW.house hw
  obtain ⟨f2, m2, hf2⟩ := MW.joined hw
  obtain ⟨f3, m3, hf3⟩ := MW.spooks hw
  obtain ⟨f4, m4, hf4⟩ := MW.people hw
  obtain ⟨f5, m5, hf5⟩ := MW.numbers hw
  refine lv_aload_n hx hb dX5_haunt_5 rfl (lv_at hl 0 rfl) ?_
  refine lv_iload_n hx hb dX5_haunt_6 rfl (lv_at hl 1 rfl) ?_
  refine m_cV 1 [.int (nI k)] [] hx hb hml hown hts hK (c_misRoomY l E A g M σ 0 hv hw k (by omega)) gX5_haunt_X5_isRoom rfl rfl rfl (by decide +kernel) rfl ⟨Nat.le_of_ble_eq_true rfl, Nat.le_of_ble_eq_true rfl⟩ hM (MW.x hw) rfl rfl hM hl.1 (Nat.le_of_ble_eq_true rfl) ⟨Nat.le_of_ble_eq_true rfl, Nat.le_of_ble_eq_true rfl⟩ rfl dX5_haunt_7 ?_
  refine lv_if_ne (tgt := 19) hx hb dX5_haunt_10 (by decide) (fun c9 => ?_) (fun c9 => absurd c9 (by decide))
  refine lv_iload_n hx hb dX5_haunt_19 rfl (lv_at hl 2 rfl) ?_
  refine lv_iconst (v := 1) hx hb dX5_haunt_20 (by decide) ?_
  refine lv_bipush (v := 9) hx hb dX5_haunt_21 (by decide) ?_
  refine m_cS 3 [.int xf, .int 1, .int 9] [] hx hb hml hown hts hK (c_isInY l E A g M xf 1 9 (hok.1)) gX5_haunt_X5_isIn rfl rfl rfl (by decide +kernel) rfl ⟨Nat.le_of_ble_eq_true rfl, Nat.le_of_ble_eq_true rfl⟩ trivial hl.1 (Nat.le_of_ble_eq_true rfl) ⟨Nat.le_of_ble_eq_true rfl, Nat.le_of_ble_eq_true rfl⟩ rfl dX5_haunt_23 ?_
  refine lv_if_eq (tgt := 52) hx hb dX5_haunt_26 (by decide) (fun c9 => absurd c9 (by decide)) (fun c9 => ?_)
  refine lv_iload_n hx hb dX5_haunt_29 rfl (lv_at hl 3 rfl) ?_
  refine lv_iconst (v := 0) hx hb dX5_haunt_30 (by decide) ?_
  refine lv_bipush (v := 11) hx hb dX5_haunt_31 (by decide) ?_
  refine m_cS 3 [.int xw, .int 0, .int 11] [] hx hb hml hown hts hK (c_isInY l E A g M xw 0 11 (hok.2.1)) gX5_haunt_X5_isIn rfl rfl rfl (by decide +kernel) rfl ⟨Nat.le_of_ble_eq_true rfl, Nat.le_of_ble_eq_true rfl⟩ trivial hl.1 (Nat.le_of_ble_eq_true rfl) ⟨Nat.le_of_ble_eq_true rfl, Nat.le_of_ble_eq_true rfl⟩ rfl dX5_haunt_33 ?_
  refine lv_if_eq (tgt := 52) hx hb dX5_haunt_36 (by decide) (fun c9 => absurd c9 (by decide)) (fun c9 => ?_)
  refine lv_iload hx hb dX5_haunt_39 (lv_at hl 4 rfl) ?_
  refine lv_iload_n hx hb dX5_haunt_41 rfl (lv_at hl 3 rfl) ?_
  refine lv_icmp_le (tgt := 52) hx hb dX5_haunt_42 (by decide) (fun c9 => absurd hok.2.2.1 (Int32.not_lt.mpr c9)) (fun c42 => ?_)
  refine lv_iload hx hb dX5_haunt_45 (lv_at hl 4 rfl) ?_
  refine lv_bipush (v := 12) hx hb dX5_haunt_47 (by decide) ?_
  refine lv_icmp_le (tgt := 58) hx hb dX5_haunt_49 (by decide) (fun c49 => ?_) (fun c9 => absurd hok.2.2.2 c9)
  refine lv_aload_n hx hb dX5_haunt_58 rfl (lv_at hl 0 rfl) ?_
  refine m_get hx hb hts in_X5_haunt_X5 hown hK hM (MW.x hw) rfl 3 (by decide) (by decide +kernel) rfl dX5_haunt_59 ?_
  refine lv_iconst (v := 5) hx hb dX5_haunt_62 (by decide) ?_
  refine lv_icmp_ne (tgt := 72) hx hb dX5_haunt_63 (by decide) (fun c63 => ?_) (fun c9 => absurd ((nI_eq (b := 5) (by omega) (by decide)).mp c9) (by omega))
  refine lv_iconst (v := 4) hx hb dX5_haunt_72 (by decide) ?_
  obtain ⟨q7, hq7⟩ : ∃ q, q = H.size := ⟨_, rfl⟩
  have n7 := MW.dom hw 7 (Nat.le_refl 7)
  refine m_newa hx hb hts (by decide +kernel) hK hM hS hA 7 (n7) 4 (by decide) (by decide) (by decide) (Nat.le_of_ble_eq_true rfl) (Nat.le_of_ble_eq_true rfl) dX5_haunt_73 (fun H hM hz ho hS => ?_)
  rw [← hq7] at hM ⊢
  refine lv_dup hx hb dX5_haunt_75 rfl ?_
  refine lv_iconst (v := 0) hx hb dX5_haunt_76 (by decide) ?_
  refine lv_iload_n hx hb dX5_haunt_77 rfl (lv_at hl 1 rfl) ?_
  refine m_iast hx hb hK hM hS mu_s (ix_ok (n := 0) ⟨by decide, by decide⟩) dX5_haunt_78 (fun H locs hM hz hS => ?_)
  rw [mu_mu] at hM
  refine lv_dup hx hb dX5_haunt_79 rfl ?_
  refine lv_iconst (v := 1) hx hb dX5_haunt_80 (by decide) ?_
  refine lv_iload_n hx hb dX5_haunt_81 rfl (lv_at hl 2 rfl) ?_
  refine m_iast hx hb hK hM hS mu_s (ix_ok (n := 1) ⟨by decide, by decide⟩) dX5_haunt_82 (fun H locs hM hz hS => ?_)
  rw [mu_mu] at hM
  refine lv_dup hx hb dX5_haunt_83 rfl ?_
  refine lv_iconst (v := 2) hx hb dX5_haunt_84 (by decide) ?_
  refine lv_iload_n hx hb dX5_haunt_85 rfl (lv_at hl 3 rfl) ?_
  refine m_iast hx hb hK hM hS mu_s (ix_ok (n := 2) ⟨by decide, by decide⟩) dX5_haunt_86 (fun H locs hM hz hS => ?_)
  rw [mu_mu] at hM
  refine lv_dup hx hb dX5_haunt_87 rfl ?_
  refine lv_iconst (v := 3) hx hb dX5_haunt_88 (by decide) ?_
  refine lv_iload hx hb dX5_haunt_89 (lv_at hl 4 rfl) ?_
  refine m_iast hx hb hK hM hS mu_s (ix_ok (n := 3) ⟨by decide, by decide⟩) dX5_haunt_91 (fun H locs hM hz hS => ?_)
  rw [mu_mu] at hM
  refine lv_astore (lv' := [(5, .ref (gu1 g 7 q7 7)), (0, .ref (g 0)), (1, .int (nI k)), (2, .int xf), (3, .int xw), (4, .int xb)]) hx hb dX5_haunt_92 hl (by decide) rfl (fun ls hl => ?_)
  refine lv_aload hx hb dX5_haunt_94 (lv_at hl 0 rfl) ?_
  refine lv_iconst (v := 0) hx hb dX5_haunt_96 (by decide) ?_
  refine lv_aload_n hx hb dX5_haunt_97 rfl (lv_at hl 1 rfl) ?_
  refine W.eq (g2 := F0 m 98 ls [.ref (gu1 g 7 q7 0), .int 0, .ref (gu1 g 7 q7 7)]) rfl ?_
  refine m_get hx hb hts in_X5_haunt_X5 hown hK hM ((mu_n (u := 0) (t := 7) (by decide)).trans (MW.x hw)) rfl 7 (by decide) (by decide +kernel) rfl dX5_haunt_98 ?_
  refine lv_iconst (v := 4) hx hb dX5_haunt_101 (by decide) ?_
  refine lv_aload_n hx hb dX5_haunt_102 rfl (lv_at hl 1 rfl) ?_
  refine W.eq (g2 := F0 m 103 ls [.ref (gu1 g 7 q7 0), .int 4, .ref (g 3), .int 0, .ref (gu1 g 7 q7 7)]) rfl ?_
  refine m_get hx hb hts in_X5_haunt_X5 hown hK hM ((mu_n (u := 0) (t := 7) (by decide)).trans (MW.x hw)) rfl 3 (by decide) (by decide +kernel) rfl dX5_haunt_103 ?_
  refine lv_imul hx hb dX5_haunt_106 ?_
  refine W.eq (g2 := F0 m 107 ls [.int (4 * (nI (kG σ))), .ref (g 3), .int 0, .ref (gu1 g 7 q7 7)]) rfl ?_
  rw [show (4 * (nI (kG σ)) : Int32) = nI (4 * kG σ) from pk_mul _ _]
  refine lv_iconst (v := 4) hx hb dX5_haunt_107 (by decide) ?_
  refine W.eq (g2 := F0 m 108 ls [.int 4, .int (nI (4 * kG σ)), .ref (gu1 g 7 q7 3), .int 0, .ref (gu1 g 7 q7 7)]) rfl ?_
  refine m_copyi (t0 := 7) (t1 := 3) (n0 := 4) hx hb (hml.trans hl.1.symm) hown hts (by decide +kernel) (by decide +kernel) (by decide +kernel) (by decide +kernel) hK hM hS mu_s ((mu_n (by decide)).trans m3) (by decide) (nI_pos (by omega)) (by decide) (by decide) (by rw [nI_clamp (by omega)]; show 4 * kG σ + 4 ≤ 20; omega) (Nat.le_of_ble_eq_true rfl) (Nat.le_of_ble_eq_true rfl) dX5_haunt_108 (fun H locs hM hz hS => ?_)
  have hM := mP.out7 hM n7 (by decide)
  rw [nI_clamp (show 4 * kG σ < 2 ^ 31 by omega)] at hM
  obtain ⟨M, hM, hw⟩ : ∃ M', mP E A g M' H ∧ MW E g M' (σ.1, nw (sGh σ) (kG σ) (rowG (nI k) xf xw xb), σ.2.2) 0 := ⟨_, hM, MW.putG hw (cpy_row (x := rowG (nI k) xf xw xb) hf3 (fun c hc => by rcases (show c = 0 ∨ c = 1 ∨ c = 2 ∨ c = 3 by omega) with rfl | rfl | rfl | rfl <;> rfl))⟩
  obtain ⟨⟨hR9, hG9, hU9, hD9⟩, -⟩ := id hv
  obtain ⟨f1, m1, hf1⟩ := MW.house hw
  obtain ⟨f2, m2, hf2⟩ := MW.joined hw
  obtain ⟨f3, m3, hf3⟩ := MW.spooks hw
  obtain ⟨f4, m4, hf4⟩ := MW.people hw
  obtain ⟨f5, m5, hf5⟩ := MW.numbers hw
  refine W.eq (g2 := F0 m 111 ls []) rfl ?_
  refine lv_aload_n hx hb dX5_haunt_111 rfl (lv_at hl 1 rfl) ?_
  refine lv_dup hx hb dX5_haunt_112 rfl ?_
  refine m_get hx hb hts in_X5_haunt_X5 hown hK hM (MW.x hw) rfl 3 (by decide) (by decide +kernel) rfl dX5_haunt_113 ?_
  refine lv_iconst (v := 1) hx hb dX5_haunt_116 (by decide) ?_
  refine lv_iadd hx hb dX5_haunt_117 ?_
  refine W.eq (g2 := F0 m 118 ls [.int ((nI (kG σ)) + 1), .ref (g 0)]) rfl ?_
  rw [show ((nI (kG σ)) + 1 : Int32) = nI (kG σ + 1) from nI_1 _]
  refine m_put hx hb hts in_X5_haunt_X5 tyX5 tyX5_ok nmX5 hown hK hM hS (MW.x hw) rfl 3 (by decide) (by decide +kernel) rfl (tyX5_ok 3 (by decide)) rfl rfl (Nat.le_of_ble_eq_true rfl) dX5_haunt_118 (fun H locs hM hz hS => ?_)
  obtain ⟨M, hM, hw⟩ : ∃ M', mP E A g M' H ∧ MW E g M' (haS σ (nI k) xf xw xb) 0 := ⟨_, hM, MW.put0 (σ2 := haS σ (nI k) xf xw xb) (th2 := 0) hw rfl rfl rfl rfl rfl rfl rfl⟩
  obtain ⟨⟨hR9, hG9, hU9, hD9⟩, -⟩ := id hv
  obtain ⟨f1, m1, hf1⟩ := MW.house hw
  obtain ⟨f2, m2, hf2⟩ := MW.joined hw
  obtain ⟨f3, m3, hf3⟩ := MW.spooks hw
  obtain ⟨f4, m4, hf4⟩ := MW.people hw
  obtain ⟨f5, m5, hf5⟩ := MW.numbers hw
  refine lv_aload_n hx hb dX5_haunt_121 rfl (lv_at hl 1 rfl) ?_
  refine m_get hx hb hts in_X5_haunt_X5 hown hK hM (MW.x hw) rfl 3 (by decide) (by decide +kernel) rfl dX5_haunt_122 ?_
  refine lv_iconst (v := 1) hx hb dX5_haunt_125 (by decide) ?_
  refine lv_isub hx hb dX5_haunt_126 ?_
  refine W.eq (g2 := F0 m 127 ls [.int ((nI (kG σ + 1)) - 1)]) rfl ?_
  rw [show ((nI (kG σ + 1)) - 1 : Int32) = nI (kG σ) from nI_p1 _]
  exact w_i hx hb hr hlocks dX5_haunt_127 hS (Nat.le_of_ble_eq_true rfl) (Nat.le_of_ble_eq_true rfl) (by first | rfl | assumption) (⟨_, hM, hw⟩)
set_option maxHeartbeats 4000000 in
set_option maxRecDepth 100000 in
theorem m_haunt1 (l : Launch) (E : gE) (A : Nat → Prop) (g : Nat → Nat) (M : gM) (σ : Sg) (th : Int32) (hv : VS σ) (hw : MW E g M σ th) (x xf xw xb : Int32) (hbad : ¬ (0 ≤ x ∧ x < nI (kR σ))) : Met l yX5_haunt wsX5_haunt ({ frames := 2, cells := 0, slots := 0, locals := 43 } : Room) (Pm E [.ref (g 0), .int x, .int xf, .int xw, .int xb] (mP E A g M)) (QW (some (.int 0)) (fun H => ∃ M', mP E A g M' H ∧ MW E g M' σ 1) A) 0 0 A := by
  refine m_entry (by decide) rfl (Nat.le_of_ble_eq_true rfl) ?_
  intro p e s m args below meth c hx hb hr hml hts hown hlocks hin hM hK ls hl
  have hl : lv_has ls 6 [(0, .ref (g 0)), (1, .int x), (2, .int xf), (3, .int xw), (4, .int xb)] := hl
  have hown : s.vm.findClass RX5 = some m.cls := hown
  have hS : va_S A s.heap s.heap [] := va_S.rf
  skip
  obtain ⟨⟨hR9, hG9, hU9, hD9⟩, -⟩ := id hv
  obtain ⟨f1, m1, hf1⟩ := MW.house hw
  obtain ⟨f2, m2, hf2⟩ := MW.joined hw
  obtain ⟨f3, m3, hf3⟩ := MW.spooks hw
  obtain ⟨f4, m4, hf4⟩ := MW.people hw
  obtain ⟨f5, m5, hf5⟩ := MW.numbers hw
  refine lv_aload_n hx hb dX5_haunt_0 rfl (lv_at hl 0 rfl) ?_
  refine lv_iconst (v := 0) hx hb dX5_haunt_1 (by decide) ?_
  refine m_put hx hb hts in_X5_haunt_X5 tyX5 tyX5_ok nmX5 hown hK hM hS (MW.x hw) rfl 0 (by decide) (by decide +kernel) rfl (tyX5_ok 0 (by decide)) rfl rfl (Nat.le_of_ble_eq_true rfl) dX5_haunt_2 (fun H locs hM hz hS => ?_)
  obtain ⟨M, hM, hw⟩ : ∃ M', mP E A g M' H ∧ MW E g M' σ 0 := ⟨_, hM, MW.setTh hw _⟩
  obtain ⟨f1, m1, hf1⟩ := MW.house hw
  obtain ⟨f2, m2, hf2⟩ := MW.joined hw
  obtain ⟨f3, m3, hf3⟩ := MW.spooks hw
  obtain ⟨f4, m4, hf4⟩ := MW.people hw
  obtain ⟨f5, m5, hf5⟩ := MW.numbers hw
  refine lv_aload_n hx hb dX5_haunt_5 rfl (lv_at hl 0 rfl) ?_
  refine lv_iload_n hx hb dX5_haunt_6 rfl (lv_at hl 1 rfl) ?_
  refine m_cV 1 [.int x] [] hx hb hml hown hts hK (c_misRoom l E A g M σ 0 hv hw x) gX5_haunt_X5_isRoom rfl rfl rfl (by decide +kernel) rfl ⟨Nat.le_of_ble_eq_true rfl, Nat.le_of_ble_eq_true rfl⟩ hM (MW.x hw) rfl rfl hM hl.1 (Nat.le_of_ble_eq_true rfl) ⟨Nat.le_of_ble_eq_true rfl, Nat.le_of_ble_eq_true rfl⟩ rfl dX5_haunt_7 ?_
  refine lv_if_ne (tgt := 19) hx hb dX5_haunt_10 (by decide) (fun c9 => absurd (of_decide_eq_true (bI_t c9)) hbad) (fun c10 => ?_)
  have c10 := of_decide_eq_false (bI_f c10)
  refine lv_aload_n hx hb dX5_haunt_13 rfl (lv_at hl 0 rfl) ?_
  refine lv_iconst (v := 1) hx hb dX5_haunt_14 (by decide) ?_
  refine m_wV 1 [.int 1] [] hx hb hml hown hts hK (c_fail l E A g M σ 0 hw 1) gX5_haunt_X5_fail rfl rfl rfl (by decide +kernel) rfl ⟨Nat.le_of_ble_eq_true rfl, Nat.le_of_ble_eq_true rfl⟩ hM (MW.x hw) rfl rfl hM hl.1 (Nat.le_of_ble_eq_true rfl) ⟨Nat.le_of_ble_eq_true rfl, Nat.le_of_ble_eq_true rfl⟩ rfl dX5_haunt_15 hS (fun _ _ h => h) (fun _ h => h) (fun H locs hQ hz hk hS => ?_)
  refine W.eq (g2 := F0 m 18 ls [.int 0]) rfl ?_
  obtain ⟨M, hM, hw⟩ := hQ
  obtain ⟨f1, m1, hf1⟩ := MW.house hw
  obtain ⟨f2, m2, hf2⟩ := MW.joined hw
  obtain ⟨f3, m3, hf3⟩ := MW.spooks hw
  obtain ⟨f4, m4, hf4⟩ := MW.people hw
  obtain ⟨f5, m5, hf5⟩ := MW.numbers hw
  exact w_i hx hb hr hlocks dX5_haunt_18 hS (Nat.le_of_ble_eq_true rfl) (Nat.le_of_ble_eq_true rfl) (by first | rfl | assumption) (⟨_, hM, hw⟩)
set_option maxHeartbeats 4000000 in
set_option maxRecDepth 100000 in
theorem m_haunt2 (l : Launch) (E : gE) (A : Nat → Prop) (g : Nat → Nat) (M : gM) (σ : Sg) (th : Int32) (hv : VS σ) (hw : MW E g M σ th) (k : Nat) (hk : k < kR σ) (xf xw xb : Int32) (hbad : ¬ ((1 ≤ xf ∧ xf ≤ 9) ∧ (0 ≤ xw ∧ xw ≤ 11) ∧ xw < xb ∧ xb ≤ 12)) : Met l yX5_haunt wsX5_haunt ({ frames := 2, cells := 0, slots := 0, locals := 43 } : Room) (Pm E [.ref (g 0), .int (nI k), .int xf, .int xw, .int xb] (mP E A g M)) (QW (some (.int 0)) (fun H => ∃ M', mP E A g M' H ∧ MW E g M' σ 2) A) 0 0 A := by
  refine m_entry (by decide) rfl (Nat.le_of_ble_eq_true rfl) ?_
  intro p e s m args below meth c hx hb hr hml hts hown hlocks hin hM hK ls hl
  have hl : lv_has ls 6 [(0, .ref (g 0)), (1, .int (nI k)), (2, .int xf), (3, .int xw), (4, .int xb)] := hl
  have hown : s.vm.findClass RX5 = some m.cls := hown
  have hS : va_S A s.heap s.heap [] := va_S.rf
  skip
  obtain ⟨⟨hR9, hG9, hU9, hD9⟩, -⟩ := id hv
  obtain ⟨f1, m1, hf1⟩ := MW.house hw
  obtain ⟨f2, m2, hf2⟩ := MW.joined hw
  obtain ⟨f3, m3, hf3⟩ := MW.spooks hw
  obtain ⟨f4, m4, hf4⟩ := MW.people hw
  obtain ⟨f5, m5, hf5⟩ := MW.numbers hw
  refine lv_aload_n hx hb dX5_haunt_0 rfl (lv_at hl 0 rfl) ?_
  refine lv_iconst (v := 0) hx hb dX5_haunt_1 (by decide) ?_
  refine m_put hx hb hts in_X5_haunt_X5 tyX5 tyX5_ok nmX5 hown hK hM hS (MW.x hw) rfl 0 (by decide) (by decide +kernel) rfl (tyX5_ok 0 (by decide)) rfl rfl (Nat.le_of_ble_eq_true rfl) dX5_haunt_2 (fun H locs hM hz hS => ?_)
  obtain ⟨M, hM, hw⟩ : ∃ M', mP E A g M' H ∧ MW E g M' σ 0 := ⟨_, hM, MW.setTh hw _⟩
  obtain ⟨f1, m1, hf1⟩ := MW.house hw
  obtain ⟨f2, m2, hf2⟩ := MW.joined hw
  obtain ⟨f3, m3, hf3⟩ := MW.spooks hw
  obtain ⟨f4, m4, hf4⟩ := MW.people hw
  obtain ⟨f5, m5, hf5⟩ := MW.numbers hw
  refine lv_aload_n hx hb dX5_haunt_5 rfl (lv_at hl 0 rfl) ?_
  refine lv_iload_n hx hb dX5_haunt_6 rfl (lv_at hl 1 rfl) ?_
  refine m_cV 1 [.int (nI k)] [] hx hb hml hown hts hK (c_misRoomY l E A g M σ 0 hv hw k (by omega)) gX5_haunt_X5_isRoom rfl rfl rfl (by decide +kernel) rfl ⟨Nat.le_of_ble_eq_true rfl, Nat.le_of_ble_eq_true rfl⟩ hM (MW.x hw) rfl rfl hM hl.1 (Nat.le_of_ble_eq_true rfl) ⟨Nat.le_of_ble_eq_true rfl, Nat.le_of_ble_eq_true rfl⟩ rfl dX5_haunt_7 ?_
  refine lv_if_ne (tgt := 19) hx hb dX5_haunt_10 (by decide) (fun c9 => ?_) (fun c9 => absurd c9 (by decide))
  refine lv_iload_n hx hb dX5_haunt_19 rfl (lv_at hl 2 rfl) ?_
  refine lv_iconst (v := 1) hx hb dX5_haunt_20 (by decide) ?_
  refine lv_bipush (v := 9) hx hb dX5_haunt_21 (by decide) ?_
  refine m_cS 3 [.int xf, .int 1, .int 9] [] hx hb hml hown hts hK (c_isIn l E A g M xf 1 9) gX5_haunt_X5_isIn rfl rfl rfl (by decide +kernel) rfl ⟨Nat.le_of_ble_eq_true rfl, Nat.le_of_ble_eq_true rfl⟩ trivial hl.1 (Nat.le_of_ble_eq_true rfl) ⟨Nat.le_of_ble_eq_true rfl, Nat.le_of_ble_eq_true rfl⟩ rfl dX5_haunt_23 ?_
  refine lv_if_eq (tgt := 52) hx hb dX5_haunt_26 (by decide) (fun c26 => ?_) (fun c26 => ?_)
  · have c26 := of_decide_eq_false (bI_f c26)
    refine lv_aload_n hx hb dX5_haunt_52 rfl (lv_at hl 0 rfl) ?_
    refine lv_iconst (v := 2) hx hb dX5_haunt_53 (by decide) ?_
    refine m_wV 1 [.int 2] [] hx hb hml hown hts hK (c_fail l E A g M σ 0 hw 2) gX5_haunt_X5_fail rfl rfl rfl (by decide +kernel) rfl ⟨Nat.le_of_ble_eq_true rfl, Nat.le_of_ble_eq_true rfl⟩ hM (MW.x hw) rfl rfl hM hl.1 (Nat.le_of_ble_eq_true rfl) ⟨Nat.le_of_ble_eq_true rfl, Nat.le_of_ble_eq_true rfl⟩ rfl dX5_haunt_54 hS (fun _ _ h => h) (fun _ h => h) (fun H locs hQ hz hk hS => ?_)
    refine W.eq (g2 := F0 m 57 ls [.int 0]) rfl ?_
    obtain ⟨M, hM, hw⟩ := hQ
    obtain ⟨f1, m1, hf1⟩ := MW.house hw
    obtain ⟨f2, m2, hf2⟩ := MW.joined hw
    obtain ⟨f3, m3, hf3⟩ := MW.spooks hw
    obtain ⟨f4, m4, hf4⟩ := MW.people hw
    obtain ⟨f5, m5, hf5⟩ := MW.numbers hw
    exact w_i hx hb hr hlocks dX5_haunt_57 hS (Nat.le_of_ble_eq_true rfl) (Nat.le_of_ble_eq_true rfl) (by first | rfl | assumption) (⟨_, hM, hw⟩)
  · have c26 := of_decide_eq_true (bI_t c26)
    refine lv_iload_n hx hb dX5_haunt_29 rfl (lv_at hl 3 rfl) ?_
    refine lv_iconst (v := 0) hx hb dX5_haunt_30 (by decide) ?_
    refine lv_bipush (v := 11) hx hb dX5_haunt_31 (by decide) ?_
    refine m_cS 3 [.int xw, .int 0, .int 11] [] hx hb hml hown hts hK (c_isIn l E A g M xw 0 11) gX5_haunt_X5_isIn rfl rfl rfl (by decide +kernel) rfl ⟨Nat.le_of_ble_eq_true rfl, Nat.le_of_ble_eq_true rfl⟩ trivial hl.1 (Nat.le_of_ble_eq_true rfl) ⟨Nat.le_of_ble_eq_true rfl, Nat.le_of_ble_eq_true rfl⟩ rfl dX5_haunt_33 ?_
    refine lv_if_eq (tgt := 52) hx hb dX5_haunt_36 (by decide) (fun c36 => ?_) (fun c36 => ?_)
    · have c36 := of_decide_eq_false (bI_f c36)
      refine lv_aload_n hx hb dX5_haunt_52 rfl (lv_at hl 0 rfl) ?_
      refine lv_iconst (v := 2) hx hb dX5_haunt_53 (by decide) ?_
      refine m_wV 1 [.int 2] [] hx hb hml hown hts hK (c_fail l E A g M σ 0 hw 2) gX5_haunt_X5_fail rfl rfl rfl (by decide +kernel) rfl ⟨Nat.le_of_ble_eq_true rfl, Nat.le_of_ble_eq_true rfl⟩ hM (MW.x hw) rfl rfl hM hl.1 (Nat.le_of_ble_eq_true rfl) ⟨Nat.le_of_ble_eq_true rfl, Nat.le_of_ble_eq_true rfl⟩ rfl dX5_haunt_54 hS (fun _ _ h => h) (fun _ h => h) (fun H locs hQ hz hk hS => ?_)
      refine W.eq (g2 := F0 m 57 ls [.int 0]) rfl ?_
      obtain ⟨M, hM, hw⟩ := hQ
      obtain ⟨f1, m1, hf1⟩ := MW.house hw
      obtain ⟨f2, m2, hf2⟩ := MW.joined hw
      obtain ⟨f3, m3, hf3⟩ := MW.spooks hw
      obtain ⟨f4, m4, hf4⟩ := MW.people hw
      obtain ⟨f5, m5, hf5⟩ := MW.numbers hw
      exact w_i hx hb hr hlocks dX5_haunt_57 hS (Nat.le_of_ble_eq_true rfl) (Nat.le_of_ble_eq_true rfl) (by first | rfl | assumption) (⟨_, hM, hw⟩)
    · have c36 := of_decide_eq_true (bI_t c36)
      refine lv_iload hx hb dX5_haunt_39 (lv_at hl 4 rfl) ?_
      refine lv_iload_n hx hb dX5_haunt_41 rfl (lv_at hl 3 rfl) ?_
      refine lv_icmp_le (tgt := 52) hx hb dX5_haunt_42 (by decide) (fun c42 => ?_) (fun c42 => ?_)
      · refine lv_aload_n hx hb dX5_haunt_52 rfl (lv_at hl 0 rfl) ?_
        refine lv_iconst (v := 2) hx hb dX5_haunt_53 (by decide) ?_
        refine m_wV 1 [.int 2] [] hx hb hml hown hts hK (c_fail l E A g M σ 0 hw 2) gX5_haunt_X5_fail rfl rfl rfl (by decide +kernel) rfl ⟨Nat.le_of_ble_eq_true rfl, Nat.le_of_ble_eq_true rfl⟩ hM (MW.x hw) rfl rfl hM hl.1 (Nat.le_of_ble_eq_true rfl) ⟨Nat.le_of_ble_eq_true rfl, Nat.le_of_ble_eq_true rfl⟩ rfl dX5_haunt_54 hS (fun _ _ h => h) (fun _ h => h) (fun H locs hQ hz hk hS => ?_)
        refine W.eq (g2 := F0 m 57 ls [.int 0]) rfl ?_
        obtain ⟨M, hM, hw⟩ := hQ
        obtain ⟨f1, m1, hf1⟩ := MW.house hw
        obtain ⟨f2, m2, hf2⟩ := MW.joined hw
        obtain ⟨f3, m3, hf3⟩ := MW.spooks hw
        obtain ⟨f4, m4, hf4⟩ := MW.people hw
        obtain ⟨f5, m5, hf5⟩ := MW.numbers hw
        exact w_i hx hb hr hlocks dX5_haunt_57 hS (Nat.le_of_ble_eq_true rfl) (Nat.le_of_ble_eq_true rfl) (by first | rfl | assumption) (⟨_, hM, hw⟩)
      · refine lv_iload hx hb dX5_haunt_45 (lv_at hl 4 rfl) ?_
        refine lv_bipush (v := 12) hx hb dX5_haunt_47 (by decide) ?_
        refine lv_icmp_le (tgt := 58) hx hb dX5_haunt_49 (by decide) (fun c9 => absurd ⟨c26, c36, Int32.not_le.mp c42, c9⟩ hbad) (fun c49 => ?_)
        refine lv_aload_n hx hb dX5_haunt_52 rfl (lv_at hl 0 rfl) ?_
        refine lv_iconst (v := 2) hx hb dX5_haunt_53 (by decide) ?_
        refine m_wV 1 [.int 2] [] hx hb hml hown hts hK (c_fail l E A g M σ 0 hw 2) gX5_haunt_X5_fail rfl rfl rfl (by decide +kernel) rfl ⟨Nat.le_of_ble_eq_true rfl, Nat.le_of_ble_eq_true rfl⟩ hM (MW.x hw) rfl rfl hM hl.1 (Nat.le_of_ble_eq_true rfl) ⟨Nat.le_of_ble_eq_true rfl, Nat.le_of_ble_eq_true rfl⟩ rfl dX5_haunt_54 hS (fun _ _ h => h) (fun _ h => h) (fun H locs hQ hz hk hS => ?_)
        refine W.eq (g2 := F0 m 57 ls [.int 0]) rfl ?_
        obtain ⟨M, hM, hw⟩ := hQ
        obtain ⟨f1, m1, hf1⟩ := MW.house hw
        obtain ⟨f2, m2, hf2⟩ := MW.joined hw
        obtain ⟨f3, m3, hf3⟩ := MW.spooks hw
        obtain ⟨f4, m4, hf4⟩ := MW.people hw
        obtain ⟨f5, m5, hf5⟩ := MW.numbers hw
        exact w_i hx hb hr hlocks dX5_haunt_57 hS (Nat.le_of_ble_eq_true rfl) (Nat.le_of_ble_eq_true rfl) (by first | rfl | assumption) (⟨_, hM, hw⟩)
set_option maxHeartbeats 4000000 in
set_option maxRecDepth 100000 in
theorem m_haunt3 (l : Launch) (E : gE) (A : Nat → Prop) (g : Nat → Nat) (M : gM) (σ : Sg) (th : Int32) (hv : VS σ) (hw : MW E g M σ th) (k : Nat) (hk : k < kR σ) (xf xw xb : Int32) (hok : ((1 ≤ xf ∧ xf ≤ 9) ∧ (0 ≤ xw ∧ xw ≤ 11) ∧ xw < xb ∧ xb ≤ 12)) (hfull : kG σ = 5) : Met l yX5_haunt wsX5_haunt ({ frames := 2, cells := 0, slots := 0, locals := 43 } : Room) (Pm E [.ref (g 0), .int (nI k), .int xf, .int xw, .int xb] (mP E A g M)) (QW (some (.int 0)) (fun H => ∃ M', mP E A g M' H ∧ MW E g M' σ 3) A) 0 0 A := by
  refine m_entry (by decide) rfl (Nat.le_of_ble_eq_true rfl) ?_
  intro p e s m args below meth c hx hb hr hml hts hown hlocks hin hM hK ls hl
  have hl : lv_has ls 6 [(0, .ref (g 0)), (1, .int (nI k)), (2, .int xf), (3, .int xw), (4, .int xb)] := hl
  have hown : s.vm.findClass RX5 = some m.cls := hown
  have hS : va_S A s.heap s.heap [] := va_S.rf
  skip
  obtain ⟨⟨hR9, hG9, hU9, hD9⟩, -⟩ := id hv
  obtain ⟨f1, m1, hf1⟩ := MW.house hw
  obtain ⟨f2, m2, hf2⟩ := MW.joined hw
  obtain ⟨f3, m3, hf3⟩ := MW.spooks hw
  obtain ⟨f4, m4, hf4⟩ := MW.people hw
  obtain ⟨f5, m5, hf5⟩ := MW.numbers hw
  refine lv_aload_n hx hb dX5_haunt_0 rfl (lv_at hl 0 rfl) ?_
  refine lv_iconst (v := 0) hx hb dX5_haunt_1 (by decide) ?_
  refine m_put hx hb hts in_X5_haunt_X5 tyX5 tyX5_ok nmX5 hown hK hM hS (MW.x hw) rfl 0 (by decide) (by decide +kernel) rfl (tyX5_ok 0 (by decide)) rfl rfl (Nat.le_of_ble_eq_true rfl) dX5_haunt_2 (fun H locs hM hz hS => ?_)
  obtain ⟨M, hM, hw⟩ : ∃ M', mP E A g M' H ∧ MW E g M' σ 0 := ⟨_, hM, MW.setTh hw _⟩
  obtain ⟨f1, m1, hf1⟩ := MW.house hw
  obtain ⟨f2, m2, hf2⟩ := MW.joined hw
  obtain ⟨f3, m3, hf3⟩ := MW.spooks hw
  obtain ⟨f4, m4, hf4⟩ := MW.people hw
  obtain ⟨f5, m5, hf5⟩ := MW.numbers hw
  refine lv_aload_n hx hb dX5_haunt_5 rfl (lv_at hl 0 rfl) ?_
  refine lv_iload_n hx hb dX5_haunt_6 rfl (lv_at hl 1 rfl) ?_
  refine m_cV 1 [.int (nI k)] [] hx hb hml hown hts hK (c_misRoomY l E A g M σ 0 hv hw k (by omega)) gX5_haunt_X5_isRoom rfl rfl rfl (by decide +kernel) rfl ⟨Nat.le_of_ble_eq_true rfl, Nat.le_of_ble_eq_true rfl⟩ hM (MW.x hw) rfl rfl hM hl.1 (Nat.le_of_ble_eq_true rfl) ⟨Nat.le_of_ble_eq_true rfl, Nat.le_of_ble_eq_true rfl⟩ rfl dX5_haunt_7 ?_
  refine lv_if_ne (tgt := 19) hx hb dX5_haunt_10 (by decide) (fun c9 => ?_) (fun c9 => absurd c9 (by decide))
  refine lv_iload_n hx hb dX5_haunt_19 rfl (lv_at hl 2 rfl) ?_
  refine lv_iconst (v := 1) hx hb dX5_haunt_20 (by decide) ?_
  refine lv_bipush (v := 9) hx hb dX5_haunt_21 (by decide) ?_
  refine m_cS 3 [.int xf, .int 1, .int 9] [] hx hb hml hown hts hK (c_isInY l E A g M xf 1 9 (hok.1)) gX5_haunt_X5_isIn rfl rfl rfl (by decide +kernel) rfl ⟨Nat.le_of_ble_eq_true rfl, Nat.le_of_ble_eq_true rfl⟩ trivial hl.1 (Nat.le_of_ble_eq_true rfl) ⟨Nat.le_of_ble_eq_true rfl, Nat.le_of_ble_eq_true rfl⟩ rfl dX5_haunt_23 ?_
  refine lv_if_eq (tgt := 52) hx hb dX5_haunt_26 (by decide) (fun c9 => absurd c9 (by decide)) (fun c9 => ?_)
  refine lv_iload_n hx hb dX5_haunt_29 rfl (lv_at hl 3 rfl) ?_
  refine lv_iconst (v := 0) hx hb dX5_haunt_30 (by decide) ?_
  refine lv_bipush (v := 11) hx hb dX5_haunt_31 (by decide) ?_
  refine m_cS 3 [.int xw, .int 0, .int 11] [] hx hb hml hown hts hK (c_isInY l E A g M xw 0 11 (hok.2.1)) gX5_haunt_X5_isIn rfl rfl rfl (by decide +kernel) rfl ⟨Nat.le_of_ble_eq_true rfl, Nat.le_of_ble_eq_true rfl⟩ trivial hl.1 (Nat.le_of_ble_eq_true rfl) ⟨Nat.le_of_ble_eq_true rfl, Nat.le_of_ble_eq_true rfl⟩ rfl dX5_haunt_33 ?_
  refine lv_if_eq (tgt := 52) hx hb dX5_haunt_36 (by decide) (fun c9 => absurd c9 (by decide)) (fun c9 => ?_)
  refine lv_iload hx hb dX5_haunt_39 (lv_at hl 4 rfl) ?_
  refine lv_iload_n hx hb dX5_haunt_41 rfl (lv_at hl 3 rfl) ?_
  refine lv_icmp_le (tgt := 52) hx hb dX5_haunt_42 (by decide) (fun c9 => absurd hok.2.2.1 (Int32.not_lt.mpr c9)) (fun c42 => ?_)
  refine lv_iload hx hb dX5_haunt_45 (lv_at hl 4 rfl) ?_
  refine lv_bipush (v := 12) hx hb dX5_haunt_47 (by decide) ?_
  refine lv_icmp_le (tgt := 58) hx hb dX5_haunt_49 (by decide) (fun c49 => ?_) (fun c9 => absurd hok.2.2.2 c9)
  refine lv_aload_n hx hb dX5_haunt_58 rfl (lv_at hl 0 rfl) ?_
  refine m_get hx hb hts in_X5_haunt_X5 hown hK hM (MW.x hw) rfl 3 (by decide) (by decide +kernel) rfl dX5_haunt_59 ?_
  refine lv_iconst (v := 5) hx hb dX5_haunt_62 (by decide) ?_
  refine lv_icmp_ne (tgt := 72) hx hb dX5_haunt_63 (by decide) (fun c9 => absurd (by rw [hfull]; rfl) c9) (fun c63 => ?_)
  refine lv_aload_n hx hb dX5_haunt_66 rfl (lv_at hl 0 rfl) ?_
  refine lv_iconst (v := 3) hx hb dX5_haunt_67 (by decide) ?_
  refine m_wV 1 [.int 3] [] hx hb hml hown hts hK (c_fail l E A g M σ 0 hw 3) gX5_haunt_X5_fail rfl rfl rfl (by decide +kernel) rfl ⟨Nat.le_of_ble_eq_true rfl, Nat.le_of_ble_eq_true rfl⟩ hM (MW.x hw) rfl rfl hM hl.1 (Nat.le_of_ble_eq_true rfl) ⟨Nat.le_of_ble_eq_true rfl, Nat.le_of_ble_eq_true rfl⟩ rfl dX5_haunt_68 hS (fun _ _ h => h) (fun _ h => h) (fun H locs hQ hz hk hS => ?_)
  refine W.eq (g2 := F0 m 71 ls [.int 0]) rfl ?_
  obtain ⟨M, hM, hw⟩ := hQ
  obtain ⟨f1, m1, hf1⟩ := MW.house hw
  obtain ⟨f2, m2, hf2⟩ := MW.joined hw
  obtain ⟨f3, m3, hf3⟩ := MW.spooks hw
  obtain ⟨f4, m4, hf4⟩ := MW.people hw
  obtain ⟨f5, m5, hf5⟩ := MW.numbers hw
  exact w_i hx hb hr hlocks dX5_haunt_71 hS (Nat.le_of_ble_eq_true rfl) (Nat.le_of_ble_eq_true rfl) (by first | rfl | assumption) (⟨_, hM, hw⟩)
theorem in_X5_come_X5 : ∀ w ∈ u_ws RX5 TX5 11, w ∈ wsX5_come := by decide +kernel
set_option maxHeartbeats 4000000 in
set_option maxRecDepth 100000 in
theorem m_comeOk (l : Launch) (E : gE) (A : Nat → Prop) (g : Nat → Nat) (M : gM) (σ : Sg) (th : Int32) (hv : VS σ) (hw : MW E g M σ th) (xc xn xv : Int32) (hok : ((0 ≤ xc ∧ xc ≤ 1000) ∧ (1 ≤ xn ∧ xn ≤ 6) ∧ ((-9) ≤ xv ∧ xv ≤ 90))) (hn : kU σ < 12) : Met l yX5_come wsX5_come ({ frames := 1, cells := 1, slots := 7, locals := 60 } : Room) (Pm E [.ref (g 0), .int xc, .int xn, .int xv] (fun H => mP E A g M H ∧ ∀ q : Nat, H.size ≤ q → A q)) (QW (some (.int (nI (kU σ)))) (fun H => ∃ M', mP E A g M' H ∧ MW E g M' (coS σ xc xn xv) 0) A) 1 7 A := by
  refine m_entry (by decide) rfl (Nat.le_of_ble_eq_true rfl) ?_
  intro p e s m args below meth c hx hb hr hml hts hown hlocks hin hP hK ls hl
  have hl : lv_has ls 5 [(0, .ref (g 0)), (1, .int xc), (2, .int xn), (3, .int xv)] := hl
  have hown : s.vm.findClass RX5 = some m.cls := hown
  have hS : va_S A s.heap s.heap [] := va_S.rf
  skip
  obtain ⟨hM, hA⟩ := hP
  obtain ⟨⟨hR9, hG9, hU9, hD9⟩, -⟩ := id hv
  obtain ⟨f1, m1, hf1⟩ := MW.house hw
  obtain ⟨f2, m2, hf2⟩ := MW.joined hw
  obtain ⟨f3, m3, hf3⟩ := MW.spooks hw
  obtain ⟨f4, m4, hf4⟩ := MW.people hw
  obtain ⟨f5, m5, hf5⟩ := MW.numbers hw
  refine lv_aload_n hx hb dX5_come_0 rfl (lv_at hl 0 rfl) ?_
  refine lv_iconst (v := 0) hx hb dX5_come_1 (by decide) ?_
  refine m_put hx hb hts in_X5_come_X5 tyX5 tyX5_ok nmX5 hown hK hM hS (MW.x hw) rfl 0 (by decide) (by decide +kernel) rfl (tyX5_ok 0 (by decide)) rfl rfl (Nat.le_of_ble_eq_true rfl) dX5_come_2 (fun H locs hM hz hS => ?_)
  have hA := fun (q : Nat) (h : H.size ≤ q) => hA q (by omega)
  obtain ⟨M, hM, hw⟩ : ∃ M', mP E A g M' H ∧ MW E g M' σ 0 := ⟨_, hM, MW.setTh hw _⟩
  obtain ⟨⟨hR9, hG9, hU9, hD9⟩, -⟩ := id hv
  obtain ⟨f1, m1, hf1⟩ := MW.house hw
  obtain ⟨f2, m2, hf2⟩ := MW.joined hw
  obtain ⟨f3, m3, hf3⟩ := MW.spooks hw
  obtain ⟨f4, m4, hf4⟩ := MW.people hw
  obtain ⟨f5, m5, hf5⟩ := MW.numbers hw
  refine lv_iload_n hx hb dX5_come_5 rfl (lv_at hl 1 rfl) ?_
  refine lv_iconst (v := 0) hx hb dX5_come_6 (by decide) ?_
  refine lv_sipush (v := 1000) hx hb dX5_come_7 (by decide) ?_
  refine m_cS 3 [.int xc, .int 0, .int 1000] [] hx hb hml hown hts hK (c_isInY l E A g M xc 0 1000 (hok.1)) gX5_come_X5_isIn rfl rfl rfl (by decide +kernel) rfl ⟨Nat.le_of_ble_eq_true rfl, Nat.le_of_ble_eq_true rfl⟩ trivial hl.1 (Nat.le_of_ble_eq_true rfl) ⟨Nat.le_of_ble_eq_true rfl, Nat.le_of_ble_eq_true rfl⟩ rfl dX5_come_10 ?_
  refine lv_if_eq (tgt := 37) hx hb dX5_come_13 (by decide) (fun c9 => absurd c9 (by decide)) (fun c9 => ?_)
  refine lv_iload_n hx hb dX5_come_16 rfl (lv_at hl 2 rfl) ?_
  refine lv_iconst (v := 1) hx hb dX5_come_17 (by decide) ?_
  refine lv_bipush (v := 6) hx hb dX5_come_18 (by decide) ?_
  refine m_cS 3 [.int xn, .int 1, .int 6] [] hx hb hml hown hts hK (c_isInY l E A g M xn 1 6 (hok.2.1)) gX5_come_X5_isIn rfl rfl rfl (by decide +kernel) rfl ⟨Nat.le_of_ble_eq_true rfl, Nat.le_of_ble_eq_true rfl⟩ trivial hl.1 (Nat.le_of_ble_eq_true rfl) ⟨Nat.le_of_ble_eq_true rfl, Nat.le_of_ble_eq_true rfl⟩ rfl dX5_come_20 ?_
  refine lv_if_eq (tgt := 37) hx hb dX5_come_23 (by decide) (fun c9 => absurd c9 (by decide)) (fun c9 => ?_)
  refine lv_iload_n hx hb dX5_come_26 rfl (lv_at hl 3 rfl) ?_
  refine lv_bipush (v := (-9)) hx hb dX5_come_27 (by decide) ?_
  refine lv_bipush (v := 90) hx hb dX5_come_29 (by decide) ?_
  refine m_cS 3 [.int xv, .int (-9), .int 90] [] hx hb hml hown hts hK (c_isInY l E A g M xv (-9) 90 (hok.2.2)) gX5_come_X5_isIn rfl rfl rfl (by decide +kernel) rfl ⟨Nat.le_of_ble_eq_true rfl, Nat.le_of_ble_eq_true rfl⟩ trivial hl.1 (Nat.le_of_ble_eq_true rfl) ⟨Nat.le_of_ble_eq_true rfl, Nat.le_of_ble_eq_true rfl⟩ rfl dX5_come_31 ?_
  refine lv_if_ne (tgt := 43) hx hb dX5_come_34 (by decide) (fun c9 => ?_) (fun c9 => absurd c9 (by decide))
  refine lv_aload_n hx hb dX5_come_43 rfl (lv_at hl 0 rfl) ?_
  refine m_get hx hb hts in_X5_come_X5 hown hK hM (MW.x hw) rfl 4 (by decide) (by decide +kernel) rfl dX5_come_44 ?_
  refine lv_bipush (v := 12) hx hb dX5_come_47 (by decide) ?_
  refine lv_icmp_ne (tgt := 58) hx hb dX5_come_49 (by decide) (fun c49 => ?_) (fun c9 => absurd ((nI_eq (b := 12) (by omega) (by decide)).mp c9) (by omega))
  refine lv_bipush (v := 7) hx hb dX5_come_58 (by decide) ?_
  obtain ⟨q7, hq7⟩ : ∃ q, q = H.size := ⟨_, rfl⟩
  have n7 := MW.dom hw 7 (Nat.le_refl 7)
  refine m_newa hx hb hts (by decide +kernel) hK hM hS hA 7 (n7) 7 (by decide) (by decide) (by decide) (Nat.le_of_ble_eq_true rfl) (Nat.le_of_ble_eq_true rfl) dX5_come_60 (fun H hM hz ho hS => ?_)
  rw [← hq7] at hM ⊢
  refine lv_dup hx hb dX5_come_62 rfl ?_
  refine lv_iconst (v := 0) hx hb dX5_come_63 (by decide) ?_
  refine lv_iload_n hx hb dX5_come_64 rfl (lv_at hl 1 rfl) ?_
  refine m_iast hx hb hK hM hS mu_s (ix_ok (n := 0) ⟨by decide, by decide⟩) dX5_come_65 (fun H locs hM hz hS => ?_)
  rw [mu_mu] at hM
  refine lv_dup hx hb dX5_come_66 rfl ?_
  refine lv_iconst (v := 1) hx hb dX5_come_67 (by decide) ?_
  refine lv_iload_n hx hb dX5_come_68 rfl (lv_at hl 2 rfl) ?_
  refine m_iast hx hb hK hM hS mu_s (ix_ok (n := 1) ⟨by decide, by decide⟩) dX5_come_69 (fun H locs hM hz hS => ?_)
  rw [mu_mu] at hM
  refine lv_dup hx hb dX5_come_70 rfl ?_
  refine lv_iconst (v := 2) hx hb dX5_come_71 (by decide) ?_
  refine lv_iload_n hx hb dX5_come_72 rfl (lv_at hl 3 rfl) ?_
  refine m_iast hx hb hK hM hS mu_s (ix_ok (n := 2) ⟨by decide, by decide⟩) dX5_come_73 (fun H locs hM hz hS => ?_)
  rw [mu_mu] at hM
  refine lv_dup hx hb dX5_come_74 rfl ?_
  refine lv_iconst (v := 3) hx hb dX5_come_75 (by decide) ?_
  refine lv_iconst (v := (-1)) hx hb dX5_come_76 (by decide) ?_
  refine m_iast hx hb hK hM hS mu_s (ix_ok (n := 3) ⟨by decide, by decide⟩) dX5_come_77 (fun H locs hM hz hS => ?_)
  rw [mu_mu] at hM
  refine lv_dup hx hb dX5_come_78 rfl ?_
  refine lv_iconst (v := 4) hx hb dX5_come_79 (by decide) ?_
  refine lv_iconst (v := 0) hx hb dX5_come_80 (by decide) ?_
  refine m_iast hx hb hK hM hS mu_s (ix_ok (n := 4) ⟨by decide, by decide⟩) dX5_come_81 (fun H locs hM hz hS => ?_)
  rw [mu_mu] at hM
  refine lv_dup hx hb dX5_come_82 rfl ?_
  refine lv_iconst (v := 5) hx hb dX5_come_83 (by decide) ?_
  refine lv_iconst (v := 0) hx hb dX5_come_84 (by decide) ?_
  refine m_iast hx hb hK hM hS mu_s (ix_ok (n := 5) ⟨by decide, by decide⟩) dX5_come_85 (fun H locs hM hz hS => ?_)
  rw [mu_mu] at hM
  refine lv_dup hx hb dX5_come_86 rfl ?_
  refine lv_bipush (v := 6) hx hb dX5_come_87 (by decide) ?_
  refine lv_iconst (v := 0) hx hb dX5_come_89 (by decide) ?_
  refine m_iast hx hb hK hM hS mu_s (ix_ok (n := 6) ⟨by decide, by decide⟩) dX5_come_90 (fun H locs hM hz hS => ?_)
  rw [mu_mu] at hM
  refine lv_astore (lv' := [(4, .ref (gu1 g 7 q7 7)), (0, .ref (g 0)), (1, .int xc), (2, .int xn), (3, .int xv)]) hx hb dX5_come_91 hl (by decide) rfl (fun ls hl => ?_)
  refine lv_aload hx hb dX5_come_93 (lv_at hl 0 rfl) ?_
  refine lv_iconst (v := 0) hx hb dX5_come_95 (by decide) ?_
  refine lv_aload_n hx hb dX5_come_96 rfl (lv_at hl 1 rfl) ?_
  refine W.eq (g2 := F0 m 97 ls [.ref (gu1 g 7 q7 0), .int 0, .ref (gu1 g 7 q7 7)]) rfl ?_
  refine m_get hx hb hts in_X5_come_X5 hown hK hM ((mu_n (u := 0) (t := 7) (by decide)).trans (MW.x hw)) rfl 8 (by decide) (by decide +kernel) rfl dX5_come_97 ?_
  refine lv_bipush (v := 7) hx hb dX5_come_100 (by decide) ?_
  refine lv_aload_n hx hb dX5_come_102 rfl (lv_at hl 1 rfl) ?_
  refine W.eq (g2 := F0 m 103 ls [.ref (gu1 g 7 q7 0), .int 7, .ref (g 4), .int 0, .ref (gu1 g 7 q7 7)]) rfl ?_
  refine m_get hx hb hts in_X5_come_X5 hown hK hM ((mu_n (u := 0) (t := 7) (by decide)).trans (MW.x hw)) rfl 4 (by decide) (by decide +kernel) rfl dX5_come_103 ?_
  refine lv_imul hx hb dX5_come_106 ?_
  refine W.eq (g2 := F0 m 107 ls [.int (7 * (nI (kU σ))), .ref (g 4), .int 0, .ref (gu1 g 7 q7 7)]) rfl ?_
  rw [show (7 * (nI (kU σ)) : Int32) = nI (7 * kU σ) from pk_mul _ _]
  refine lv_bipush (v := 7) hx hb dX5_come_107 (by decide) ?_
  refine W.eq (g2 := F0 m 109 ls [.int 7, .int (nI (7 * kU σ)), .ref (gu1 g 7 q7 4), .int 0, .ref (gu1 g 7 q7 7)]) rfl ?_
  refine m_copyi (t0 := 7) (t1 := 4) (n0 := 7) hx hb (hml.trans hl.1.symm) hown hts (by decide +kernel) (by decide +kernel) (by decide +kernel) (by decide +kernel) hK hM hS mu_s ((mu_n (by decide)).trans m4) (by decide) (nI_pos (by omega)) (by decide) (by decide) (by rw [nI_clamp (by omega)]; show 7 * kU σ + 7 ≤ 84; omega) (Nat.le_of_ble_eq_true rfl) (Nat.le_of_ble_eq_true rfl) dX5_come_109 (fun H locs hM hz hS => ?_)
  have hM := mP.out7 hM n7 (by decide)
  rw [nI_clamp (show 7 * kU σ < 2 ^ 31 by omega)] at hM
  obtain ⟨M, hM, hw⟩ : ∃ M', mP E A g M' H ∧ MW E g M' (σ.1, σ.2.1, nw (sGu σ) (kU σ) (rowU xc xn xv), σ.2.2.2) 0 := ⟨_, hM, MW.putU hw (cpy_row (x := rowU xc xn xv) hf4 (fun c hc => by rcases (show c = 0 ∨ c = 1 ∨ c = 2 ∨ c = 3 ∨ c = 4 ∨ c = 5 ∨ c = 6 by omega) with rfl | rfl | rfl | rfl | rfl | rfl | rfl <;> rfl))⟩
  obtain ⟨⟨hR9, hG9, hU9, hD9⟩, -⟩ := id hv
  obtain ⟨f1, m1, hf1⟩ := MW.house hw
  obtain ⟨f2, m2, hf2⟩ := MW.joined hw
  obtain ⟨f3, m3, hf3⟩ := MW.spooks hw
  obtain ⟨f4, m4, hf4⟩ := MW.people hw
  obtain ⟨f5, m5, hf5⟩ := MW.numbers hw
  refine W.eq (g2 := F0 m 112 ls []) rfl ?_
  refine lv_aload_n hx hb dX5_come_112 rfl (lv_at hl 1 rfl) ?_
  refine lv_dup hx hb dX5_come_113 rfl ?_
  refine m_get hx hb hts in_X5_come_X5 hown hK hM (MW.x hw) rfl 4 (by decide) (by decide +kernel) rfl dX5_come_114 ?_
  refine lv_iconst (v := 1) hx hb dX5_come_117 (by decide) ?_
  refine lv_iadd hx hb dX5_come_118 ?_
  refine W.eq (g2 := F0 m 119 ls [.int ((nI (kU σ)) + 1), .ref (g 0)]) rfl ?_
  rw [show ((nI (kU σ)) + 1 : Int32) = nI (kU σ + 1) from nI_1 _]
  refine m_put hx hb hts in_X5_come_X5 tyX5 tyX5_ok nmX5 hown hK hM hS (MW.x hw) rfl 4 (by decide) (by decide +kernel) rfl (tyX5_ok 4 (by decide)) rfl rfl (Nat.le_of_ble_eq_true rfl) dX5_come_119 (fun H locs hM hz hS => ?_)
  obtain ⟨M, hM, hw⟩ : ∃ M', mP E A g M' H ∧ MW E g M' (coS σ xc xn xv) 0 := ⟨_, hM, MW.put0 (σ2 := coS σ xc xn xv) (th2 := 0) hw rfl rfl rfl rfl rfl rfl rfl⟩
  obtain ⟨⟨hR9, hG9, hU9, hD9⟩, -⟩ := id hv
  obtain ⟨f1, m1, hf1⟩ := MW.house hw
  obtain ⟨f2, m2, hf2⟩ := MW.joined hw
  obtain ⟨f3, m3, hf3⟩ := MW.spooks hw
  obtain ⟨f4, m4, hf4⟩ := MW.people hw
  obtain ⟨f5, m5, hf5⟩ := MW.numbers hw
  refine lv_aload_n hx hb dX5_come_122 rfl (lv_at hl 1 rfl) ?_
  refine m_get hx hb hts in_X5_come_X5 hown hK hM (MW.x hw) rfl 4 (by decide) (by decide +kernel) rfl dX5_come_123 ?_
  refine lv_iconst (v := 1) hx hb dX5_come_126 (by decide) ?_
  refine lv_isub hx hb dX5_come_127 ?_
  refine W.eq (g2 := F0 m 128 ls [.int ((nI (kU σ + 1)) - 1)]) rfl ?_
  rw [show ((nI (kU σ + 1)) - 1 : Int32) = nI (kU σ) from nI_p1 _]
  exact w_i hx hb hr hlocks dX5_come_128 hS (Nat.le_of_ble_eq_true rfl) (Nat.le_of_ble_eq_true rfl) (by first | rfl | assumption) (⟨_, hM, hw⟩)
set_option maxHeartbeats 4000000 in
set_option maxRecDepth 100000 in
theorem m_comeB (l : Launch) (E : gE) (A : Nat → Prop) (g : Nat → Nat) (M : gM) (σ : Sg) (th : Int32) (hv : VS σ) (hw : MW E g M σ th) (xc xn xv : Int32) (hbad : ¬ ((0 ≤ xc ∧ xc ≤ 1000) ∧ (1 ≤ xn ∧ xn ≤ 6) ∧ ((-9) ≤ xv ∧ xv ≤ 90))) : Met l yX5_come wsX5_come ({ frames := 1, cells := 0, slots := 0, locals := 22 } : Room) (Pm E [.ref (g 0), .int xc, .int xn, .int xv] (mP E A g M)) (QW (some (.int 0)) (fun H => ∃ M', mP E A g M' H ∧ MW E g M' σ 1) A) 0 0 A := by
  refine m_entry (by decide) rfl (Nat.le_of_ble_eq_true rfl) ?_
  intro p e s m args below meth c hx hb hr hml hts hown hlocks hin hM hK ls hl
  have hl : lv_has ls 5 [(0, .ref (g 0)), (1, .int xc), (2, .int xn), (3, .int xv)] := hl
  have hown : s.vm.findClass RX5 = some m.cls := hown
  have hS : va_S A s.heap s.heap [] := va_S.rf
  skip
  obtain ⟨⟨hR9, hG9, hU9, hD9⟩, -⟩ := id hv
  obtain ⟨f1, m1, hf1⟩ := MW.house hw
  obtain ⟨f2, m2, hf2⟩ := MW.joined hw
  obtain ⟨f3, m3, hf3⟩ := MW.spooks hw
  obtain ⟨f4, m4, hf4⟩ := MW.people hw
  obtain ⟨f5, m5, hf5⟩ := MW.numbers hw
  refine lv_aload_n hx hb dX5_come_0 rfl (lv_at hl 0 rfl) ?_
  refine lv_iconst (v := 0) hx hb dX5_come_1 (by decide) ?_
  refine m_put hx hb hts in_X5_come_X5 tyX5 tyX5_ok nmX5 hown hK hM hS (MW.x hw) rfl 0 (by decide) (by decide +kernel) rfl (tyX5_ok 0 (by decide)) rfl rfl (Nat.le_of_ble_eq_true rfl) dX5_come_2 (fun H locs hM hz hS => ?_)
  obtain ⟨M, hM, hw⟩ : ∃ M', mP E A g M' H ∧ MW E g M' σ 0 := ⟨_, hM, MW.setTh hw _⟩
  obtain ⟨f1, m1, hf1⟩ := MW.house hw
  obtain ⟨f2, m2, hf2⟩ := MW.joined hw
  obtain ⟨f3, m3, hf3⟩ := MW.spooks hw
  obtain ⟨f4, m4, hf4⟩ := MW.people hw
  obtain ⟨f5, m5, hf5⟩ := MW.numbers hw
  refine lv_iload_n hx hb dX5_come_5 rfl (lv_at hl 1 rfl) ?_
  refine lv_iconst (v := 0) hx hb dX5_come_6 (by decide) ?_
  refine lv_sipush (v := 1000) hx hb dX5_come_7 (by decide) ?_
  refine m_cS 3 [.int xc, .int 0, .int 1000] [] hx hb hml hown hts hK (c_isIn l E A g M xc 0 1000) gX5_come_X5_isIn rfl rfl rfl (by decide +kernel) rfl ⟨Nat.le_of_ble_eq_true rfl, Nat.le_of_ble_eq_true rfl⟩ trivial hl.1 (Nat.le_of_ble_eq_true rfl) ⟨Nat.le_of_ble_eq_true rfl, Nat.le_of_ble_eq_true rfl⟩ rfl dX5_come_10 ?_
  refine lv_if_eq (tgt := 37) hx hb dX5_come_13 (by decide) (fun c13 => ?_) (fun c13 => ?_)
  · have c13 := of_decide_eq_false (bI_f c13)
    refine lv_aload_n hx hb dX5_come_37 rfl (lv_at hl 0 rfl) ?_
    refine lv_iconst (v := 1) hx hb dX5_come_38 (by decide) ?_
    refine m_wV 1 [.int 1] [] hx hb hml hown hts hK (c_fail l E A g M σ 0 hw 1) gX5_come_X5_fail rfl rfl rfl (by decide +kernel) rfl ⟨Nat.le_of_ble_eq_true rfl, Nat.le_of_ble_eq_true rfl⟩ hM (MW.x hw) rfl rfl hM hl.1 (Nat.le_of_ble_eq_true rfl) ⟨Nat.le_of_ble_eq_true rfl, Nat.le_of_ble_eq_true rfl⟩ rfl dX5_come_39 hS (fun _ _ h => h) (fun _ h => h) (fun H locs hQ hz hk hS => ?_)
    refine W.eq (g2 := F0 m 42 ls [.int 0]) rfl ?_
    obtain ⟨M, hM, hw⟩ := hQ
    obtain ⟨f1, m1, hf1⟩ := MW.house hw
    obtain ⟨f2, m2, hf2⟩ := MW.joined hw
    obtain ⟨f3, m3, hf3⟩ := MW.spooks hw
    obtain ⟨f4, m4, hf4⟩ := MW.people hw
    obtain ⟨f5, m5, hf5⟩ := MW.numbers hw
    exact w_i hx hb hr hlocks dX5_come_42 hS (Nat.le_of_ble_eq_true rfl) (Nat.le_of_ble_eq_true rfl) (by first | rfl | assumption) (⟨_, hM, hw⟩)
  · have c13 := of_decide_eq_true (bI_t c13)
    refine lv_iload_n hx hb dX5_come_16 rfl (lv_at hl 2 rfl) ?_
    refine lv_iconst (v := 1) hx hb dX5_come_17 (by decide) ?_
    refine lv_bipush (v := 6) hx hb dX5_come_18 (by decide) ?_
    refine m_cS 3 [.int xn, .int 1, .int 6] [] hx hb hml hown hts hK (c_isIn l E A g M xn 1 6) gX5_come_X5_isIn rfl rfl rfl (by decide +kernel) rfl ⟨Nat.le_of_ble_eq_true rfl, Nat.le_of_ble_eq_true rfl⟩ trivial hl.1 (Nat.le_of_ble_eq_true rfl) ⟨Nat.le_of_ble_eq_true rfl, Nat.le_of_ble_eq_true rfl⟩ rfl dX5_come_20 ?_
    refine lv_if_eq (tgt := 37) hx hb dX5_come_23 (by decide) (fun c23 => ?_) (fun c23 => ?_)
    · have c23 := of_decide_eq_false (bI_f c23)
      refine lv_aload_n hx hb dX5_come_37 rfl (lv_at hl 0 rfl) ?_
      refine lv_iconst (v := 1) hx hb dX5_come_38 (by decide) ?_
      refine m_wV 1 [.int 1] [] hx hb hml hown hts hK (c_fail l E A g M σ 0 hw 1) gX5_come_X5_fail rfl rfl rfl (by decide +kernel) rfl ⟨Nat.le_of_ble_eq_true rfl, Nat.le_of_ble_eq_true rfl⟩ hM (MW.x hw) rfl rfl hM hl.1 (Nat.le_of_ble_eq_true rfl) ⟨Nat.le_of_ble_eq_true rfl, Nat.le_of_ble_eq_true rfl⟩ rfl dX5_come_39 hS (fun _ _ h => h) (fun _ h => h) (fun H locs hQ hz hk hS => ?_)
      refine W.eq (g2 := F0 m 42 ls [.int 0]) rfl ?_
      obtain ⟨M, hM, hw⟩ := hQ
      obtain ⟨f1, m1, hf1⟩ := MW.house hw
      obtain ⟨f2, m2, hf2⟩ := MW.joined hw
      obtain ⟨f3, m3, hf3⟩ := MW.spooks hw
      obtain ⟨f4, m4, hf4⟩ := MW.people hw
      obtain ⟨f5, m5, hf5⟩ := MW.numbers hw
      exact w_i hx hb hr hlocks dX5_come_42 hS (Nat.le_of_ble_eq_true rfl) (Nat.le_of_ble_eq_true rfl) (by first | rfl | assumption) (⟨_, hM, hw⟩)
    · have c23 := of_decide_eq_true (bI_t c23)
      refine lv_iload_n hx hb dX5_come_26 rfl (lv_at hl 3 rfl) ?_
      refine lv_bipush (v := (-9)) hx hb dX5_come_27 (by decide) ?_
      refine lv_bipush (v := 90) hx hb dX5_come_29 (by decide) ?_
      refine m_cS 3 [.int xv, .int (-9), .int 90] [] hx hb hml hown hts hK (c_isIn l E A g M xv (-9) 90) gX5_come_X5_isIn rfl rfl rfl (by decide +kernel) rfl ⟨Nat.le_of_ble_eq_true rfl, Nat.le_of_ble_eq_true rfl⟩ trivial hl.1 (Nat.le_of_ble_eq_true rfl) ⟨Nat.le_of_ble_eq_true rfl, Nat.le_of_ble_eq_true rfl⟩ rfl dX5_come_31 ?_
      refine lv_if_ne (tgt := 43) hx hb dX5_come_34 (by decide) (fun c9 => absurd ⟨c13, c23, of_decide_eq_true (bI_t c9)⟩ hbad) (fun c34 => ?_)
      have c34 := of_decide_eq_false (bI_f c34)
      refine lv_aload_n hx hb dX5_come_37 rfl (lv_at hl 0 rfl) ?_
      refine lv_iconst (v := 1) hx hb dX5_come_38 (by decide) ?_
      refine m_wV 1 [.int 1] [] hx hb hml hown hts hK (c_fail l E A g M σ 0 hw 1) gX5_come_X5_fail rfl rfl rfl (by decide +kernel) rfl ⟨Nat.le_of_ble_eq_true rfl, Nat.le_of_ble_eq_true rfl⟩ hM (MW.x hw) rfl rfl hM hl.1 (Nat.le_of_ble_eq_true rfl) ⟨Nat.le_of_ble_eq_true rfl, Nat.le_of_ble_eq_true rfl⟩ rfl dX5_come_39 hS (fun _ _ h => h) (fun _ h => h) (fun H locs hQ hz hk hS => ?_)
      refine W.eq (g2 := F0 m 42 ls [.int 0]) rfl ?_
      obtain ⟨M, hM, hw⟩ := hQ
      obtain ⟨f1, m1, hf1⟩ := MW.house hw
      obtain ⟨f2, m2, hf2⟩ := MW.joined hw
      obtain ⟨f3, m3, hf3⟩ := MW.spooks hw
      obtain ⟨f4, m4, hf4⟩ := MW.people hw
      obtain ⟨f5, m5, hf5⟩ := MW.numbers hw
      exact w_i hx hb hr hlocks dX5_come_42 hS (Nat.le_of_ble_eq_true rfl) (Nat.le_of_ble_eq_true rfl) (by first | rfl | assumption) (⟨_, hM, hw⟩)
set_option maxHeartbeats 4000000 in
set_option maxRecDepth 100000 in
theorem m_comeF (l : Launch) (E : gE) (A : Nat → Prop) (g : Nat → Nat) (M : gM) (σ : Sg) (th : Int32) (hv : VS σ) (hw : MW E g M σ th) (xc xn xv : Int32) (hok : ((0 ≤ xc ∧ xc ≤ 1000) ∧ (1 ≤ xn ∧ xn ≤ 6) ∧ ((-9) ≤ xv ∧ xv ≤ 90))) (hfull : kU σ = 12) : Met l yX5_come wsX5_come ({ frames := 1, cells := 0, slots := 0, locals := 22 } : Room) (Pm E [.ref (g 0), .int xc, .int xn, .int xv] (mP E A g M)) (QW (some (.int 0)) (fun H => ∃ M', mP E A g M' H ∧ MW E g M' σ 2) A) 0 0 A := by
  refine m_entry (by decide) rfl (Nat.le_of_ble_eq_true rfl) ?_
  intro p e s m args below meth c hx hb hr hml hts hown hlocks hin hM hK ls hl
  have hl : lv_has ls 5 [(0, .ref (g 0)), (1, .int xc), (2, .int xn), (3, .int xv)] := hl
  have hown : s.vm.findClass RX5 = some m.cls := hown
  have hS : va_S A s.heap s.heap [] := va_S.rf
  skip
  obtain ⟨⟨hR9, hG9, hU9, hD9⟩, -⟩ := id hv
  obtain ⟨f1, m1, hf1⟩ := MW.house hw
  obtain ⟨f2, m2, hf2⟩ := MW.joined hw
  obtain ⟨f3, m3, hf3⟩ := MW.spooks hw
  obtain ⟨f4, m4, hf4⟩ := MW.people hw
  obtain ⟨f5, m5, hf5⟩ := MW.numbers hw
  refine lv_aload_n hx hb dX5_come_0 rfl (lv_at hl 0 rfl) ?_
  refine lv_iconst (v := 0) hx hb dX5_come_1 (by decide) ?_
  refine m_put hx hb hts in_X5_come_X5 tyX5 tyX5_ok nmX5 hown hK hM hS (MW.x hw) rfl 0 (by decide) (by decide +kernel) rfl (tyX5_ok 0 (by decide)) rfl rfl (Nat.le_of_ble_eq_true rfl) dX5_come_2 (fun H locs hM hz hS => ?_)
  obtain ⟨M, hM, hw⟩ : ∃ M', mP E A g M' H ∧ MW E g M' σ 0 := ⟨_, hM, MW.setTh hw _⟩
  obtain ⟨f1, m1, hf1⟩ := MW.house hw
  obtain ⟨f2, m2, hf2⟩ := MW.joined hw
  obtain ⟨f3, m3, hf3⟩ := MW.spooks hw
  obtain ⟨f4, m4, hf4⟩ := MW.people hw
  obtain ⟨f5, m5, hf5⟩ := MW.numbers hw
  refine lv_iload_n hx hb dX5_come_5 rfl (lv_at hl 1 rfl) ?_
  refine lv_iconst (v := 0) hx hb dX5_come_6 (by decide) ?_
  refine lv_sipush (v := 1000) hx hb dX5_come_7 (by decide) ?_
  refine m_cS 3 [.int xc, .int 0, .int 1000] [] hx hb hml hown hts hK (c_isInY l E A g M xc 0 1000 (hok.1)) gX5_come_X5_isIn rfl rfl rfl (by decide +kernel) rfl ⟨Nat.le_of_ble_eq_true rfl, Nat.le_of_ble_eq_true rfl⟩ trivial hl.1 (Nat.le_of_ble_eq_true rfl) ⟨Nat.le_of_ble_eq_true rfl, Nat.le_of_ble_eq_true rfl⟩ rfl dX5_come_10 ?_
  refine lv_if_eq (tgt := 37) hx hb dX5_come_13 (by decide) (fun c9 => absurd c9 (by decide)) (fun c9 => ?_)
  refine lv_iload_n hx hb dX5_come_16 rfl (lv_at hl 2 rfl) ?_
  refine lv_iconst (v := 1) hx hb dX5_come_17 (by decide) ?_
  refine lv_bipush (v := 6) hx hb dX5_come_18 (by decide) ?_
  refine m_cS 3 [.int xn, .int 1, .int 6] [] hx hb hml hown hts hK (c_isInY l E A g M xn 1 6 (hok.2.1)) gX5_come_X5_isIn rfl rfl rfl (by decide +kernel) rfl ⟨Nat.le_of_ble_eq_true rfl, Nat.le_of_ble_eq_true rfl⟩ trivial hl.1 (Nat.le_of_ble_eq_true rfl) ⟨Nat.le_of_ble_eq_true rfl, Nat.le_of_ble_eq_true rfl⟩ rfl dX5_come_20 ?_
  refine lv_if_eq (tgt := 37) hx hb dX5_come_23 (by decide) (fun c9 => absurd c9 (by decide)) (fun c9 => ?_)
  refine lv_iload_n hx hb dX5_come_26 rfl (lv_at hl 3 rfl) ?_
  refine lv_bipush (v := (-9)) hx hb dX5_come_27 (by decide) ?_
  refine lv_bipush (v := 90) hx hb dX5_come_29 (by decide) ?_
  refine m_cS 3 [.int xv, .int (-9), .int 90] [] hx hb hml hown hts hK (c_isInY l E A g M xv (-9) 90 (hok.2.2)) gX5_come_X5_isIn rfl rfl rfl (by decide +kernel) rfl ⟨Nat.le_of_ble_eq_true rfl, Nat.le_of_ble_eq_true rfl⟩ trivial hl.1 (Nat.le_of_ble_eq_true rfl) ⟨Nat.le_of_ble_eq_true rfl, Nat.le_of_ble_eq_true rfl⟩ rfl dX5_come_31 ?_
  refine lv_if_ne (tgt := 43) hx hb dX5_come_34 (by decide) (fun c9 => ?_) (fun c9 => absurd c9 (by decide))
  refine lv_aload_n hx hb dX5_come_43 rfl (lv_at hl 0 rfl) ?_
  refine m_get hx hb hts in_X5_come_X5 hown hK hM (MW.x hw) rfl 4 (by decide) (by decide +kernel) rfl dX5_come_44 ?_
  refine lv_bipush (v := 12) hx hb dX5_come_47 (by decide) ?_
  refine lv_icmp_ne (tgt := 58) hx hb dX5_come_49 (by decide) (fun c9 => absurd (by rw [hfull]; rfl) c9) (fun c49 => ?_)
  refine lv_aload_n hx hb dX5_come_52 rfl (lv_at hl 0 rfl) ?_
  refine lv_iconst (v := 2) hx hb dX5_come_53 (by decide) ?_
  refine m_wV 1 [.int 2] [] hx hb hml hown hts hK (c_fail l E A g M σ 0 hw 2) gX5_come_X5_fail rfl rfl rfl (by decide +kernel) rfl ⟨Nat.le_of_ble_eq_true rfl, Nat.le_of_ble_eq_true rfl⟩ hM (MW.x hw) rfl rfl hM hl.1 (Nat.le_of_ble_eq_true rfl) ⟨Nat.le_of_ble_eq_true rfl, Nat.le_of_ble_eq_true rfl⟩ rfl dX5_come_54 hS (fun _ _ h => h) (fun _ h => h) (fun H locs hQ hz hk hS => ?_)
  refine W.eq (g2 := F0 m 57 ls [.int 0]) rfl ?_
  obtain ⟨M, hM, hw⟩ := hQ
  obtain ⟨f1, m1, hf1⟩ := MW.house hw
  obtain ⟨f2, m2, hf2⟩ := MW.joined hw
  obtain ⟨f3, m3, hf3⟩ := MW.spooks hw
  obtain ⟨f4, m4, hf4⟩ := MW.people hw
  obtain ⟨f5, m5, hf5⟩ := MW.numbers hw
  exact w_i hx hb hr hlocks dX5_come_57 hS (Nat.le_of_ble_eq_true rfl) (Nat.le_of_ble_eq_true rfl) (by first | rfl | assumption) (⟨_, hM, hw⟩)
