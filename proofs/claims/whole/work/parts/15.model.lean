theorem Sg_ext {σ σ2 : Sg} (h1 : ∀ i k, sRm σ i k = sRm σ2 i k) (h2 : sGh σ = sGh σ2) (h3 : ∀ i k, sGu σ i k = sGu σ2 i k) (h4 : sJn σ = sJn σ2) (h5 : σ.2.2.2.2 = σ2.2.2.2.2) : σ = σ2 := by
  obtain ⟨a1, a2, a3, a4, a5⟩ := σ
  obtain ⟨b1, b2, b3, b4, b5⟩ := σ2
  have e1 : a1 = b1 := funext fun i => funext fun k => h1 i k
  have e3 : a3 = b3 := funext fun i => funext fun k => h3 i k
  have e2 : a2 = b2 := h2
  have e4 : a4 = b4 := h4
  have e5 : a5 = b5 := h5
  subst e1; subst e2; subst e3; subst e4; subst e5; rfl
theorem up2_id {f : Nat → Nat → Int32} {i k : Nat} : up2 f i k (f i k) = f := by
  funext a b
  by_cases q : b = k ∧ a = i
  · obtain ⟨rfl, rfl⟩ := q; rw [up2_s]
  · rw [up2_n q]
theorem uU_id (σ : Sg) (i k : Nat) : uU σ i k (sGu σ i k) = σ := by rw [uU, up2_id]; rfl
theorem uR_id (σ : Sg) (i k : Nat) : uR σ i k (sRm σ i k) = σ := by rw [uR, up2_id]; rfl
theorem MW.same {E : gE} {g : Nat → Nat} {M : gM} {σ : Sg} {th : Int32} {i k : Nat} {x : Int32} (hw : MW E g M σ th) (h : x = sGu σ i k) : MW E g M (uU σ i k x) th := by rw [h, uU_id]; exact hw
theorem MW.sameR {E : gE} {g : Nat → Nat} {M : gM} {σ : Sg} {th : Int32} {i k : Nat} {x : Int32} (hw : MW E g M σ th) (h : x = sRm σ i k) : MW E g M (uR σ i k x) th := by rw [h, uR_id]; exact hw
theorem sub3 (a b c : Int32) : a - b + c = a - (b - c) := by rw [Int32.sub_eq_add_neg a (b - c), Int32.neg_sub, Int32.sub_eq_add_neg a, Int32.add_assoc, Int32.add_comm (-b)]; simp [Int32.sub_eq_add_neg]
theorem mx0 (y : Int32) : (if 0 < y then y else 0) = if y < 0 then 0 else y := by
  split <;> split <;> simp_all only [Int32.lt_iff_toInt_lt, ← Int32.toInt_inj] <;> first | rfl | omega
theorem mn90 (y : Int32) : (if y < 90 then y else 90) = if 90 < y then 90 else y := by
  split <;> split <;> simp_all only [Int32.lt_iff_toInt_lt, ← Int32.toInt_inj] <;> first | rfl | omega
theorem rc_pos {x : Int32} (h : 0 ≤ x ∧ x ≤ 9) (h0 : ¬ x ≤ 0) : rcN x true = x + (-1) := by
  have e : Int32.ofInt x.toInt = x := Int32.ofInt_toInt x
  have h1 : 0 ≤ x.toInt := Int32.le_iff_toInt_le.mp h.1
  have h2 : x.toInt ≤ 9 := Int32.le_iff_toInt_le.mp h.2
  generalize x.toInt = z at e h1 h2
  subst e
  rcases (show z = 0 ∨ z = 1 ∨ z = 2 ∨ z = 3 ∨ z = 4 ∨ z = 5 ∨ z = 6 ∨ z = 7 ∨ z = 8 ∨ z = 9 by omega) with rfl | rfl | rfl | rfl | rfl | rfl | rfl | rfl | rfl | rfl <;> first | rfl | exact absurd (by decide) h0
theorem rc_zero {x : Int32} (h : 0 ≤ x) (h0 : x ≤ 0) : rcN x true = x := by
  have e : x = 0 := Int32.le_antisymm h0 h
  subst e; rfl
/-- a room's letting, the winner's bid dropped at once -/
def mlF (σ : Sg) (k : Nat) : Sg := if wnr σ k = -1 then σ else uU (uU (ltS4 σ k (wnr σ k).toNatClampNeg) (wnr σ k).toNatClampNeg 3 (-1)) (wnr σ k).toNatClampNeg 4 0
theorem mlF_eq {τ : Sg} {k u : Nat} (hu : u < 2 ^ 31) (h : wnr τ k = nI u) : uN (uR (uR (uR (uU (uU (uU (uU (uU (uU τ u 3 (-1)) u 4 0) u 0 (sGu τ u 0 - due τ k (nI u) + ltB τ k u)) u 5 (sGu τ u 5 + 1)) u 6 (baN (sGu τ u 6) (sGu τ u 2) (hON τ (nI k) (-1) 12))) u 2 (nvN (sGu τ u 2) (hON τ (nI k) (-1) 12))) k 1 (rcN (sRm τ k 1) (frB (sGu τ u 2) (hON τ (nI k) (-1) 12)))) k 3 (sRm τ k 3 + 1)) k 4 (sRm τ k 4 + (due τ k (nI u) - ltB τ k u))) (sN τ) (sH τ + (due τ k (nI u) - ltB τ k u)) (sB τ + ltB τ k u) = mlF τ k := by
  rw [mlF, h, if_neg (nI_ne1 hu), nI_clamp hu]
  refine Sg_ext (fun i j => rfl) rfl (fun i j => ?_) rfl rfl
  rw [sub3]
  show up2 (up2 (up2 (up2 (up2 (up2 (sGu τ) u 3 _) u 4 _) u 0 _) u 5 _) u 6 _) u 2 _ i j = up2 (up2 (sGu (ltS4 τ k u)) u 3 _) u 4 _ i j
  rw [lt_gu]
  by_cases q : i = u
  · subst q
    by_cases j0 : j = 0
    · subst j0; simp [up2]
    · by_cases j3 : j = 3
      · subst j3; simp [up2]
      · by_cases j4 : j = 4
        · subst j4; simp [up2]
        · by_cases j5 : j = 5
          · subst j5; simp [up2]
          · by_cases j6 : j = 6
            · subst j6; simp [up2]
            · by_cases j2 : j = 2
              · subst j2; simp [up2]
              · simp [up2, j0, j3, j4, j5, j6, j2]
  · simp [up2, q]
def mS (σ : Sg) : Nat → Sg
  | 0 => σ
  | i + 1 => mlF (mS σ i) i
theorem mS_k (σ : Sg) : ∀ i, (mS σ i).2.2.2.2.1 = σ.2.2.2.2.1
  | 0 => rfl
  | i + 1 => by
    rw [mS]
    unfold mlF
    split
    · exact mS_k σ i
    · exact mS_k σ i
theorem VS.ml_ok {σ : Sg} (hv : VS σ) (k : Nat) : VS (mlF σ k) := by
  have h9 := hv.lt_ok k
  unfold ltF at h9
  unfold mlF
  split
  · exact hv
  · rename_i h
    rw [if_neg h] at h9
    exact h9.drop _
theorem VS.mS_ok {σ : Sg} (hv : VS σ) : ∀ i, VS (mS σ i)
  | 0 => hv
  | i + 1 => (VS.mS_ok hv i).ml_ok i
/-- the reference's state behind a night -/
def mnS (σ : Sg) : Sg := uN (dS (mS σ (kR σ)) (kU σ)) (sN (dS (mS σ (kR σ)) (kU σ)) + 1) (sH (dS (mS σ (kR σ)) (kU σ))) (sB (dS (mS σ (kR σ)) (kU σ)))
theorem MW.xk {E : gE} {g : Nat → Nat} {M : gM} {σ σ2 : Sg} {th : Int32} (h : MW E g M σ2 th) (k : σ2.2.2.2.2.1 = σ.2.2.2.2.1) : M 0 = some (.inr (6, [.int th, .int (nI (kR σ)), .int (nI (kD σ)), .int (nI (kG σ)), .int (nI (kU σ)), .ref (g 1), .ref (g 2), .ref (g 3), .ref (g 4), .ref (g 5), .ref (g 6)])) := by
  have h9 := h.x
  unfold kR kD kG kU at h9 ⊢
  rw [k] at h9
  exact h9
theorem frB_1 {nv x : Int32} (h : upB nv x = true) (h2 : ¬ nv < 0) : frB nv x = true := by
  have h := of_decide_eq_true h
  refine decide_eq_true ?_
  rcases h with h | h
  · exact absurd h.1 h2
  · exact h
theorem frB_2 {nv x : Int32} (h2 : nv < 0) : frB nv x = false := decide_eq_false (fun h => absurd h.1 (Int32.not_le.mpr h2))
theorem frB_3 {nv x : Int32} (h : upB nv x = false) : frB nv x = false := decide_eq_false (fun q => (of_decide_eq_false h) (Or.inr q))
theorem in_X5_night_X5 : ∀ w ∈ u_ws RX5 TX5 11, w ∈ wsX5_night := by decide +kernel
set_option maxHeartbeats 4000000 in
set_option maxRecDepth 100000 in
theorem m_night (l : Launch) (E : gE) (A : Nat → Prop) (g : Nat → Nat) (M : gM) (σ : Sg) (th : Int32) (hv : VS σ) (hw : MW E g M σ th)  : Met l yX5_night wsX5_night ({ frames := 5, cells := 0, slots := 0, locals := 113 } : Room) (Pm E [.ref (g 0)] (mP E A g M)) (QW (some (.int (sH (mnS σ)))) (fun H => ∃ M', mP E A g M' H ∧ MW E g M' (mnS σ) 0) A) 0 0 A := by
  refine m_entry (by decide) rfl (Nat.le_of_ble_eq_true rfl) ?_
  intro p e s m args below meth c hx hb hr hml hts hown hlocks hin hM hK ls hl
  have hl : lv_has ls 7 [(0, .ref (g 0))] := hl
  have hown : s.vm.findClass RX5 = some m.cls := hown
  have hS : va_S A s.heap s.heap [] := va_S.rf
  skip
  obtain ⟨⟨hR9, hG9, hU9, hD9⟩, -⟩ := id hv
  obtain ⟨f1, m1, hf1⟩ := MW.house hw
  obtain ⟨f2, m2, hf2⟩ := MW.joined hw
  obtain ⟨f3, m3, hf3⟩ := MW.spooks hw
  obtain ⟨f4, m4, hf4⟩ := MW.people hw
  obtain ⟨f5, m5, hf5⟩ := MW.numbers hw
  refine lv_aload_n hx hb dX5_night_0 rfl (lv_at hl 0 rfl) ?_
  refine lv_iconst (v := 0) hx hb dX5_night_1 (by decide) ?_
  refine m_put hx hb hts in_X5_night_X5 tyX5 tyX5_ok nmX5 hown hK hM hS (MW.x hw) rfl 0 (by decide) (by decide +kernel) rfl (tyX5_ok 0 (by decide)) rfl rfl (Nat.le_of_ble_eq_true rfl) dX5_night_2 (fun H locs hM hz hS => ?_)
  obtain ⟨M, hM, hw⟩ : ∃ M', mP E A g M' H ∧ MW E g M' σ 0 := ⟨_, hM, MW.setTh hw _⟩
  obtain ⟨f1, m1, hf1⟩ := MW.house hw
  obtain ⟨f2, m2, hf2⟩ := MW.joined hw
  obtain ⟨f3, m3, hf3⟩ := MW.spooks hw
  obtain ⟨f4, m4, hf4⟩ := MW.people hw
  obtain ⟨f5, m5, hf5⟩ := MW.numbers hw
  refine lv_iconst (v := 0) hx hb dX5_night_5 (by decide) ?_
  refine lv_istore_n (lv' := [(1, .int 0), (0, .ref (g 0))]) hx hb dX5_night_6 rfl hl (by decide) rfl (fun ls hl => ?_)
  have lp7 : ∀ (n7 i : Nat), n7 + i = kR σ → ∀ (H : Heap) (locs : List Loc) (M : gM), (mP E A g M H ∧ MW E g M (mS σ i) 0) → va_S A s.heap H locs → ∀ ls : Array Slot, lv_has ls 7 [(1, .int (nI i)), (0, .ref (g 0))] → W p l e ({ frames := 5, cells := 0, slots := 0, locals := 113 } : Room) s m args below meth c H locs 0 0 (MQ below (QW (some (.int (sH (mnS σ)))) (fun H => ∃ M', mP E A g M' H ∧ MW E g M' (mnS σ) 0) A) args s 0 0 A) (F0 m 7 ls []) := by
    intro n7
    induction n7 with
    | zero =>
      intro i hi7 H locs M hI hS ls hl
      obtain ⟨hM, hw⟩ := hI
      have k9 := mS_k σ i
      have hv0 := hv
      have hv := VS.mS_ok hv0 i
      have kR9 : kR (mS σ i) = kR σ := congrArg (fun q => q.1) k9
      have kG9 : kG (mS σ i) = kG σ := congrArg (fun q => q.2.1) k9
      have kU9 : kU (mS σ i) = kU σ := congrArg (fun q => q.2.2.1) k9
      obtain ⟨f1, m1, hf1⟩ := MW.house hw
      obtain ⟨f2, m2, hf2⟩ := MW.joined hw
      obtain ⟨f3, m3, hf3⟩ := MW.spooks hw
      obtain ⟨f4, m4, hf4⟩ := MW.people hw
      obtain ⟨f5, m5, hf5⟩ := MW.numbers hw
      obtain rfl : kR σ = i := by omega
      refine lv_iload_n hx hb dX5_night_7 rfl (lv_at hl 0 rfl) ?_
      refine lv_aload_n hx hb dX5_night_8 rfl (lv_at hl 1 rfl) ?_
      refine m_get hx hb hts in_X5_night_X5 hown hK hM (MW.xk hw k9) rfl 1 (by decide) (by decide +kernel) rfl dX5_night_9 ?_
      refine lv_icmp_ge (tgt := 260) hx hb dX5_night_12 (by decide) (fun c12 => ?_) (fun c9 => absurd (Int32.le_refl _) c9)
      refine lv_iconst (v := 0) hx hb dX5_night_260 (by decide) ?_
      refine lv_istore_n (lv' := [(1, .int 0), (0, .ref (g 0))]) hx hb dX5_night_261 rfl hl (by decide) rfl (fun ls hl => ?_)
      have lp262 : ∀ (n262 i : Nat), n262 + i = kU σ → ∀ (H : Heap) (locs : List Loc) (M : gM), (mP E A g M H ∧ MW E g M (dS (mS σ (kR σ)) i) 0) → va_S A s.heap H locs → ∀ ls : Array Slot, lv_has ls 7 [(1, .int (nI i)), (0, .ref (g 0))] → W p l e ({ frames := 5, cells := 0, slots := 0, locals := 113 } : Room) s m args below meth c H locs 0 0 (MQ below (QW (some (.int (sH (mnS σ)))) (fun H => ∃ M', mP E A g M' H ∧ MW E g M' (mnS σ) 0) A) args s 0 0 A) (F0 m 262 ls []) := by
        intro n262
        induction n262 with
        | zero =>
          intro i hi262 H locs M hI hS ls hl
          obtain ⟨hM, hw⟩ := hI
          have k9 := (dS_k (mS σ (kR σ)) i).trans (mS_k σ (kR σ))
          obtain ⟨f1, m1, hf1⟩ := MW.house hw
          obtain ⟨f2, m2, hf2⟩ := MW.joined hw
          obtain ⟨f3, m3, hf3⟩ := MW.spooks hw
          obtain ⟨f4, m4, hf4⟩ := MW.people hw
          obtain ⟨f5, m5, hf5⟩ := MW.numbers hw
          obtain rfl : kU σ = i := by omega
          refine lv_iload_n hx hb dX5_night_262 rfl (lv_at hl 0 rfl) ?_
          refine lv_aload_n hx hb dX5_night_263 rfl (lv_at hl 1 rfl) ?_
          refine m_get hx hb hts in_X5_night_X5 hown hK hM (MW.xk hw k9) rfl 4 (by decide) (by decide +kernel) rfl dX5_night_264 ?_
          refine lv_icmp_ge (tgt := 281) hx hb dX5_night_267 (by decide) (fun c267 => ?_) (fun c9 => absurd (Int32.le_refl _) c9)
          refine lv_aload_n hx hb dX5_night_281 rfl (lv_at hl 1 rfl) ?_
          refine m_get hx hb hts in_X5_night_X5 hown hK hM (MW.xk hw k9) rfl 9 (by decide) (by decide +kernel) rfl dX5_night_282 ?_
          refine lv_iconst (v := 0) hx hb dX5_night_285 (by decide) ?_
          refine lv_dup2_11 hx hb dX5_night_286 rfl rfl ?_
          refine m_iald (v := sN (dS (mS σ (kR σ)) (kU σ))) hx hb hK hM m5 (ix_ok (n := 0) ⟨by decide, by decide⟩) (hf5.1) dX5_night_287 ?_
          refine lv_iconst (v := 1) hx hb dX5_night_288 (by decide) ?_
          refine lv_iadd hx hb dX5_night_289 ?_
          refine m_iast hx hb hK hM hS m5 (ix_ok (n := 0) ⟨by decide, by decide⟩) dX5_night_290 (fun H locs hM hz hS => ?_)
          obtain ⟨M, hM, hw⟩ : ∃ M', mP E A g M' H ∧ MW E g M' (mnS σ) 0 := ⟨_, hM, MW.putN (n := sN (dS (mS σ (kR σ)) (kU σ)) + 1) (h := sH (dS (mS σ (kR σ)) (kU σ))) (b := sB (dS (mS σ (kR σ)) (kU σ))) hw pk_us ((pk_un (by decide)).trans hf5.2.1) ((pk_un (by decide)).trans hf5.2.2)⟩
          obtain ⟨f1, m1, hf1⟩ := MW.house hw
          obtain ⟨f2, m2, hf2⟩ := MW.joined hw
          obtain ⟨f3, m3, hf3⟩ := MW.spooks hw
          obtain ⟨f4, m4, hf4⟩ := MW.people hw
          obtain ⟨f5, m5, hf5⟩ := MW.numbers hw
          refine lv_aload_n hx hb dX5_night_291 rfl (lv_at hl 1 rfl) ?_
          refine m_get hx hb hts in_X5_night_X5 hown hK hM (MW.xk hw k9) rfl 9 (by decide) (by decide +kernel) rfl dX5_night_292 ?_
          refine lv_iconst (v := 1) hx hb dX5_night_295 (by decide) ?_
          refine m_iald (v := sH (mnS σ)) hx hb hK hM m5 (ix_ok (n := 1) ⟨by decide, by decide⟩) (hf5.2.1) dX5_night_296 ?_
          exact w_i hx hb hr hlocks dX5_night_297 hS (Nat.le_of_ble_eq_true rfl) (Nat.le_of_ble_eq_true rfl) (by first | rfl | assumption) (⟨_, hM, hw⟩)
        | succ n262 ih262 =>
          intro i hi262 H locs M hI hS ls hl
          obtain ⟨hM, hw⟩ := hI
          have k9 := (dS_k (mS σ (kR σ)) i).trans (mS_k σ (kR σ))
          obtain ⟨f1, m1, hf1⟩ := MW.house hw
          obtain ⟨f2, m2, hf2⟩ := MW.joined hw
          obtain ⟨f3, m3, hf3⟩ := MW.spooks hw
          obtain ⟨f4, m4, hf4⟩ := MW.people hw
          obtain ⟨f5, m5, hf5⟩ := MW.numbers hw
          have hlt262 : i < kU σ := by omega
          refine lv_iload_n hx hb dX5_night_262 rfl (lv_at hl 0 rfl) ?_
          refine lv_aload_n hx hb dX5_night_263 rfl (lv_at hl 1 rfl) ?_
          refine m_get hx hb hts in_X5_night_X5 hown hK hM (MW.xk hw k9) rfl 4 (by decide) (by decide +kernel) rfl dX5_night_264 ?_
          refine lv_icmp_ge (tgt := 281) hx hb dX5_night_267 (by decide) (fun c9 => absurd c9 (nI_ge hlt262 (by omega))) (fun c267 => ?_)
          refine lv_aload_n hx hb dX5_night_270 rfl (lv_at hl 1 rfl) ?_
          refine lv_iload_n hx hb dX5_night_271 rfl (lv_at hl 0 rfl) ?_
          refine m_wV 1 [.int (nI i)] [] hx hb hml hown hts hK (c_withdraw l E A g M (dS (mS σ (kR σ)) i) 0 hw i (by omega)) gX5_night_X5_withdraw rfl rfl rfl (by decide +kernel) rfl ⟨Nat.le_of_ble_eq_true rfl, Nat.le_of_ble_eq_true rfl⟩ hM (MW.xk hw k9) rfl rfl hM hl.1 (Nat.le_of_ble_eq_true rfl) ⟨Nat.le_of_ble_eq_true rfl, Nat.le_of_ble_eq_true rfl⟩ rfl dX5_night_272 hS (fun _ _ h => h) (fun _ h => h) (fun H locs hQ hz hk hS => ?_)
          refine W.eq (g2 := F0 m 275 ls []) rfl ?_
          obtain ⟨M, hM, hw⟩ := hQ
          obtain ⟨f1, m1, hf1⟩ := MW.house hw
          obtain ⟨f2, m2, hf2⟩ := MW.joined hw
          obtain ⟨f3, m3, hf3⟩ := MW.spooks hw
          obtain ⟨f4, m4, hf4⟩ := MW.people hw
          obtain ⟨f5, m5, hf5⟩ := MW.numbers hw
          refine lv_iinc (v := nI (i + 1)) (lv' := [(1, .int (nI (i + 1))), (0, .ref (g 0))]) hx hb dX5_night_275 hl (k := 0) rfl (m_inc _) (by decide) rfl (fun ls hl => ?_)
          refine lv_goto (tgt := 262) hx hb dX5_night_278 (by decide) ?_
          exact ih262 (i + 1) (by omega) _ _ _ ⟨hM, hw⟩ hS ls (lv_sub hl [0, 1] rfl)
      exact lp262 (kU σ) 0 (by omega) _ _ _ ⟨hM, hw⟩ hS ls (lv_sub hl [0, 1] rfl)
    | succ n7 ih7 =>
      intro i hi7 H locs M hI hS ls hl
      obtain ⟨hM, hw⟩ := hI
      have k9 := mS_k σ i
      have hv0 := hv
      have hv := VS.mS_ok hv0 i
      have kR9 : kR (mS σ i) = kR σ := congrArg (fun q => q.1) k9
      have kG9 : kG (mS σ i) = kG σ := congrArg (fun q => q.2.1) k9
      have kU9 : kU (mS σ i) = kU σ := congrArg (fun q => q.2.2.1) k9
      obtain ⟨f1, m1, hf1⟩ := MW.house hw
      obtain ⟨f2, m2, hf2⟩ := MW.joined hw
      obtain ⟨f3, m3, hf3⟩ := MW.spooks hw
      obtain ⟨f4, m4, hf4⟩ := MW.people hw
      obtain ⟨f5, m5, hf5⟩ := MW.numbers hw
      have hlt7 : i < kR σ := by omega
      refine lv_iload_n hx hb dX5_night_7 rfl (lv_at hl 0 rfl) ?_
      refine lv_aload_n hx hb dX5_night_8 rfl (lv_at hl 1 rfl) ?_
      refine m_get hx hb hts in_X5_night_X5 hown hK hM (MW.xk hw k9) rfl 1 (by decide) (by decide +kernel) rfl dX5_night_9 ?_
      refine lv_icmp_ge (tgt := 260) hx hb dX5_night_12 (by decide) (fun c9 => absurd c9 (nI_ge hlt7 (by omega))) (fun c12 => ?_)
      refine lv_aload_n hx hb dX5_night_15 rfl (lv_at hl 1 rfl) ?_
      refine lv_iload_n hx hb dX5_night_16 rfl (lv_at hl 0 rfl) ?_
      refine m_cV 1 [.int (nI i)] [] hx hb hml hown hts hK (c_winner l E A g M (mS σ i) 0 hv hw i (by omega)) gX5_night_X5_winner rfl rfl rfl (by decide +kernel) rfl ⟨Nat.le_of_ble_eq_true rfl, Nat.le_of_ble_eq_true rfl⟩ hM (MW.xk hw k9) rfl rfl hM hl.1 (Nat.le_of_ble_eq_true rfl) ⟨Nat.le_of_ble_eq_true rfl, Nat.le_of_ble_eq_true rfl⟩ rfl dX5_night_17 ?_
      refine lv_istore_n (lv' := [(2, .int (wnr (mS σ i) i)), (1, .int (nI i)), (0, .ref (g 0))]) hx hb dX5_night_20 rfl hl (by decide) rfl (fun ls hl => ?_)
      refine lv_iload_n hx hb dX5_night_21 rfl (lv_at hl 0 rfl) ?_
      refine lv_iconst (v := (-1)) hx hb dX5_night_22 (by decide) ?_
      refine lv_icmp_ne (tgt := 29) hx hb dX5_night_23 (by decide) (fun c23 => ?_) (fun c23 => ?_)
      · obtain ⟨u9, hu9, hw9, -⟩ := (wnr_nat (mS σ i) i).resolve_left c23
        rw [hw9] at hl
        refine lv_aload_n hx hb dX5_night_29 rfl (lv_at hl 2 rfl) ?_
        refine lv_iload_n hx hb dX5_night_30 rfl (lv_at hl 1 rfl) ?_
        refine m_cV 1 [.int (nI i)] [] hx hb hml hown hts hK (c_pays l E A g M (mS σ i) 0 hv hw i (by omega)) gX5_night_X5_pays rfl rfl rfl (by decide +kernel) rfl ⟨Nat.le_of_ble_eq_true rfl, Nat.le_of_ble_eq_true rfl⟩ hM (MW.xk hw k9) rfl rfl hM hl.1 (Nat.le_of_ble_eq_true rfl) ⟨Nat.le_of_ble_eq_true rfl, Nat.le_of_ble_eq_true rfl⟩ rfl dX5_night_31 ?_
        rw [show (due (mS σ i) i (wnr (mS σ i) i) : Int32) = due (mS σ i) i (nI u9) from by rw [hw9]]
        refine lv_istore_n (lv' := [(3, .int (due (mS σ i) i (nI u9))), (2, .int (nI u9)), (1, .int (nI i)), (0, .ref (g 0))]) hx hb dX5_night_34 rfl hl (by decide) rfl (fun ls hl => ?_)
        refine lv_aload_n hx hb dX5_night_35 rfl (lv_at hl 3 rfl) ?_
        refine lv_iload_n hx hb dX5_night_36 rfl (lv_at hl 1 rfl) ?_
        refine lv_iconst (v := 2) hx hb dX5_night_37 (by decide) ?_
        refine m_cV 2 [.int (nI u9), .int 2] [] hx hb hml hown hts hK (c_pe l E A g M (mS σ i) 0 hw u9 2 (by omega) (by omega)) gX5_night_X5_pe rfl rfl rfl (by decide +kernel) rfl ⟨Nat.le_of_ble_eq_true rfl, Nat.le_of_ble_eq_true rfl⟩ hM (MW.xk hw k9) rfl rfl hM hl.1 (Nat.le_of_ble_eq_true rfl) ⟨Nat.le_of_ble_eq_true rfl, Nat.le_of_ble_eq_true rfl⟩ rfl dX5_night_38 ?_
        refine W.eq (g2 := F0 m 41 ls [.int (sGu (mS σ i) u9 2)]) rfl ?_
        rw [show (sGu (mS σ i) u9 2 : Int32) = sGu (mS σ i) u9 2 from rfl]
        refine lv_aload_n hx hb dX5_night_41 rfl (lv_at hl 3 rfl) ?_
        refine lv_iload_n hx hb dX5_night_42 rfl (lv_at hl 2 rfl) ?_
        refine lv_iconst (v := (-1)) hx hb dX5_night_43 (by decide) ?_
        refine m_cV 2 [.int (nI i), .int (-1)] [.int (sGu (mS σ i) u9 2)] hx hb hml hown hts hK (c_haunted l E A g M (mS σ i) 0 hv hw (nI i) (-1)) gX5_night_X5_haunted rfl rfl rfl (by decide +kernel) rfl ⟨Nat.le_of_ble_eq_true rfl, Nat.le_of_ble_eq_true rfl⟩ hM (MW.xk hw k9) rfl rfl hM hl.1 (Nat.le_of_ble_eq_true rfl) ⟨Nat.le_of_ble_eq_true rfl, Nat.le_of_ble_eq_true rfl⟩ rfl dX5_night_44 ?_
        refine m_cS 2 [.int (sGu (mS σ i) u9 2), .int (hON (mS σ i) (nI i) (-1) 12)] [] hx hb hml hown hts hK (c_isBad l E A g M (sGu (mS σ i) u9 2) (hON (mS σ i) (nI i) (-1) 12)) gX5_night_X5_isBad rfl rfl rfl (by decide +kernel) rfl ⟨Nat.le_of_ble_eq_true rfl, Nat.le_of_ble_eq_true rfl⟩ trivial hl.1 (Nat.le_of_ble_eq_true rfl) ⟨Nat.le_of_ble_eq_true rfl, Nat.le_of_ble_eq_true rfl⟩ rfl dX5_night_47 ?_
        refine lv_istore (lv' := [(4, .int (bI (upB (sGu (mS σ i) u9 2) (hON (mS σ i) (nI i) (-1) 12)))), (3, .int (due (mS σ i) i (nI u9))), (2, .int (nI u9)), (1, .int (nI i)), (0, .ref (g 0))]) hx hb dX5_night_50 hl (by decide) rfl (fun ls hl => ?_)
        refine lv_iload hx hb dX5_night_52 (lv_at hl 0 rfl) ?_
        refine lv_if_eq (tgt := 63) hx hb dX5_night_54 (by decide) (fun c54 => ?_) (fun c54 => ?_)
        · have c54 := bI_f c54
          refine lv_iconst (v := 0) hx hb dX5_night_63 (by decide) ?_
          refine W.eq (g2 := F0 m 64 ls [.int (ltB (mS σ i) i u9)]) (by rw [show ltB (mS σ i) i u9 = 0 from by rw [ltB, if_neg (by rw [c54]; decide)]]) ?_
          refine lv_istore (lv' := [(5, .int (ltB (mS σ i) i u9)), (4, .int (bI (upB (sGu (mS σ i) u9 2) (hON (mS σ i) (nI i) (-1) 12)))), (3, .int (due (mS σ i) i (nI u9))), (2, .int (nI u9)), (1, .int (nI i)), (0, .ref (g 0))]) hx hb dX5_night_64 hl (by decide) rfl (fun ls hl => ?_)
          refine lv_iload hx hb dX5_night_66 (lv_at hl 1 rfl) ?_
          refine lv_if_eq (tgt := 84) hx hb dX5_night_68 (by decide) (fun c68 => ?_) (fun c9 => absurd (show bI (upB (sGu (mS σ i) u9 2) (hON (mS σ i) (nI i) (-1) 12)) = 0 by rw [c54]; rfl) c9)
          have c68 := bI_f c68
          refine lv_iconst (v := 0) hx hb dX5_night_84 (by decide) ?_
          refine W.eq (g2 := F0 m 85 ls [.int (bI (frB (sGu (mS σ i) u9 2) (hON (mS σ i) (nI i) (-1) 12)))]) (by rw [frB_3 c54]; rfl) ?_
          refine lv_istore (lv' := [(6, .int (bI (frB (sGu (mS σ i) u9 2) (hON (mS σ i) (nI i) (-1) 12)))), (5, .int (ltB (mS σ i) i u9)), (4, .int (bI (upB (sGu (mS σ i) u9 2) (hON (mS σ i) (nI i) (-1) 12)))), (3, .int (due (mS σ i) i (nI u9))), (2, .int (nI u9)), (1, .int (nI i)), (0, .ref (g 0))]) hx hb dX5_night_85 hl (by decide) rfl (fun ls hl => ?_)
          refine lv_aload_n hx hb dX5_night_87 rfl (lv_at hl 6 rfl) ?_
          refine lv_iload_n hx hb dX5_night_88 rfl (lv_at hl 4 rfl) ?_
          refine m_wV 1 [.int (nI u9)] [] hx hb hml hown hts hK (c_withdraw l E A g M (mS σ i) 0 hw u9 (by omega)) gX5_night_X5_withdraw rfl rfl rfl (by decide +kernel) rfl ⟨Nat.le_of_ble_eq_true rfl, Nat.le_of_ble_eq_true rfl⟩ hM (MW.xk hw k9) rfl rfl hM hl.1 (Nat.le_of_ble_eq_true rfl) ⟨Nat.le_of_ble_eq_true rfl, Nat.le_of_ble_eq_true rfl⟩ rfl dX5_night_89 hS (fun _ _ h => h) (fun _ h => h) (fun H locs hQ hz hk hS => ?_)
          refine W.eq (g2 := F0 m 92 ls []) rfl ?_
          obtain ⟨M, hM, hw⟩ := hQ
          obtain ⟨f1, m1, hf1⟩ := MW.house hw
          obtain ⟨f2, m2, hf2⟩ := MW.joined hw
          obtain ⟨f3, m3, hf3⟩ := MW.spooks hw
          obtain ⟨f4, m4, hf4⟩ := MW.people hw
          obtain ⟨f5, m5, hf5⟩ := MW.numbers hw
          refine lv_aload_n hx hb dX5_night_92 rfl (lv_at hl 6 rfl) ?_
          refine lv_iload_n hx hb dX5_night_93 rfl (lv_at hl 4 rfl) ?_
          refine lv_iconst (v := 0) hx hb dX5_night_94 (by decide) ?_
          refine lv_aload_n hx hb dX5_night_95 rfl (lv_at hl 6 rfl) ?_
          refine lv_iload_n hx hb dX5_night_96 rfl (lv_at hl 4 rfl) ?_
          refine lv_iconst (v := 0) hx hb dX5_night_97 (by decide) ?_
          refine m_cV 2 [.int (nI u9), .int 0] [.int 0, .int (nI u9), .ref (g 0)] hx hb hml hown hts hK (c_pe l E A g M (uU (uU (mS σ i) u9 3 (-1)) u9 4 0) 0 hw u9 0 (by omega) (by omega)) gX5_night_X5_pe rfl rfl rfl (by decide +kernel) rfl ⟨Nat.le_of_ble_eq_true rfl, Nat.le_of_ble_eq_true rfl⟩ hM (MW.xk hw k9) rfl rfl hM hl.1 (Nat.le_of_ble_eq_true rfl) ⟨Nat.le_of_ble_eq_true rfl, Nat.le_of_ble_eq_true rfl⟩ rfl dX5_night_98 ?_
          refine W.eq (g2 := F0 m 101 ls [.int (sGu (uU (uU (mS σ i) u9 3 (-1)) u9 4 0) u9 0), .int 0, .int (nI u9), .ref (g 0)]) rfl ?_
          rw [show (sGu (uU (uU (mS σ i) u9 3 (-1)) u9 4 0) u9 0 : Int32) = sGu (mS σ i) u9 0 from rfl]
          refine lv_iload_n hx hb dX5_night_101 rfl (lv_at hl 3 rfl) ?_
          refine lv_isub hx hb dX5_night_102 ?_
          refine lv_iload hx hb dX5_night_103 (lv_at hl 1 rfl) ?_
          refine lv_iadd hx hb dX5_night_105 ?_
          refine m_wV 3 [.int (nI u9), .int 0, .int (((sGu (mS σ i) u9 0) - (due (mS σ i) i (nI u9))) + (ltB (mS σ i) i u9))] [] hx hb hml hown hts hK (c_set l E A g M (uU (uU (mS σ i) u9 3 (-1)) u9 4 0) 0 hw u9 0 (by omega) (by omega) (((sGu (mS σ i) u9 0) - (due (mS σ i) i (nI u9))) + (ltB (mS σ i) i u9))) gX5_night_X5_set rfl rfl rfl (by decide +kernel) rfl ⟨Nat.le_of_ble_eq_true rfl, Nat.le_of_ble_eq_true rfl⟩ hM (MW.xk hw k9) rfl rfl hM hl.1 (Nat.le_of_ble_eq_true rfl) ⟨Nat.le_of_ble_eq_true rfl, Nat.le_of_ble_eq_true rfl⟩ rfl dX5_night_106 hS (fun _ _ h => h) (fun _ h => h) (fun H locs hQ hz hk hS => ?_)
          refine W.eq (g2 := F0 m 109 ls []) rfl ?_
          obtain ⟨M, hM, hw⟩ := hQ
          obtain ⟨f1, m1, hf1⟩ := MW.house hw
          obtain ⟨f2, m2, hf2⟩ := MW.joined hw
          obtain ⟨f3, m3, hf3⟩ := MW.spooks hw
          obtain ⟨f4, m4, hf4⟩ := MW.people hw
          obtain ⟨f5, m5, hf5⟩ := MW.numbers hw
          refine lv_aload_n hx hb dX5_night_109 rfl (lv_at hl 6 rfl) ?_
          refine lv_iload_n hx hb dX5_night_110 rfl (lv_at hl 4 rfl) ?_
          refine lv_iconst (v := 5) hx hb dX5_night_111 (by decide) ?_
          refine lv_aload_n hx hb dX5_night_112 rfl (lv_at hl 6 rfl) ?_
          refine lv_iload_n hx hb dX5_night_113 rfl (lv_at hl 4 rfl) ?_
          refine lv_iconst (v := 5) hx hb dX5_night_114 (by decide) ?_
          refine m_cV 2 [.int (nI u9), .int 5] [.int 5, .int (nI u9), .ref (g 0)] hx hb hml hown hts hK (c_pe l E A g M (uU (uU (uU (mS σ i) u9 3 (-1)) u9 4 0) u9 0 (((sGu (mS σ i) u9 0) - (due (mS σ i) i (nI u9))) + (ltB (mS σ i) i u9))) 0 hw u9 5 (by omega) (by omega)) gX5_night_X5_pe rfl rfl rfl (by decide +kernel) rfl ⟨Nat.le_of_ble_eq_true rfl, Nat.le_of_ble_eq_true rfl⟩ hM (MW.xk hw k9) rfl rfl hM hl.1 (Nat.le_of_ble_eq_true rfl) ⟨Nat.le_of_ble_eq_true rfl, Nat.le_of_ble_eq_true rfl⟩ rfl dX5_night_115 ?_
          refine W.eq (g2 := F0 m 118 ls [.int (sGu (uU (uU (uU (mS σ i) u9 3 (-1)) u9 4 0) u9 0 (((sGu (mS σ i) u9 0) - (due (mS σ i) i (nI u9))) + (ltB (mS σ i) i u9))) u9 5), .int 5, .int (nI u9), .ref (g 0)]) rfl ?_
          rw [show (sGu (uU (uU (uU (mS σ i) u9 3 (-1)) u9 4 0) u9 0 (((sGu (mS σ i) u9 0) - (due (mS σ i) i (nI u9))) + (ltB (mS σ i) i u9))) u9 5 : Int32) = sGu (mS σ i) u9 5 from rfl]
          refine lv_iconst (v := 1) hx hb dX5_night_118 (by decide) ?_
          refine lv_iadd hx hb dX5_night_119 ?_
          refine m_wV 3 [.int (nI u9), .int 5, .int ((sGu (mS σ i) u9 5) + 1)] [] hx hb hml hown hts hK (c_set l E A g M (uU (uU (uU (mS σ i) u9 3 (-1)) u9 4 0) u9 0 (((sGu (mS σ i) u9 0) - (due (mS σ i) i (nI u9))) + (ltB (mS σ i) i u9))) 0 hw u9 5 (by omega) (by omega) ((sGu (mS σ i) u9 5) + 1)) gX5_night_X5_set rfl rfl rfl (by decide +kernel) rfl ⟨Nat.le_of_ble_eq_true rfl, Nat.le_of_ble_eq_true rfl⟩ hM (MW.xk hw k9) rfl rfl hM hl.1 (Nat.le_of_ble_eq_true rfl) ⟨Nat.le_of_ble_eq_true rfl, Nat.le_of_ble_eq_true rfl⟩ rfl dX5_night_120 hS (fun _ _ h => h) (fun _ h => h) (fun H locs hQ hz hk hS => ?_)
          refine W.eq (g2 := F0 m 123 ls []) rfl ?_
          obtain ⟨M, hM, hw⟩ := hQ
          obtain ⟨f1, m1, hf1⟩ := MW.house hw
          obtain ⟨f2, m2, hf2⟩ := MW.joined hw
          obtain ⟨f3, m3, hf3⟩ := MW.spooks hw
          obtain ⟨f4, m4, hf4⟩ := MW.people hw
          obtain ⟨f5, m5, hf5⟩ := MW.numbers hw
          refine lv_iload hx hb dX5_night_123 (lv_at hl 2 rfl) ?_
          refine lv_if_eq (tgt := 144) hx hb dX5_night_125 (by decide) (fun c125 => ?_) (fun c9 => absurd (show bI (upB (sGu (mS σ i) u9 2) (hON (mS σ i) (nI i) (-1) 12)) = 0 by rw [c54]; rfl) c9)
          have c125 := bI_f c125
          obtain ⟨M, hM, hw⟩ : ∃ M', mP E A g M' H ∧ MW E g M' (uU (uU (uU (uU (uU (mS σ i) u9 3 (-1)) u9 4 0) u9 0 ((sGu (mS σ i) u9 0) - (due (mS σ i) i (nI u9)) + (ltB (mS σ i) i u9))) u9 5 ((sGu (mS σ i) u9 5) + 1)) u9 6 (baN (sGu (mS σ i) u9 6) (sGu (mS σ i) u9 2) (hON (mS σ i) (nI i) (-1) 12))) 0 := ⟨_, hM, hw.same (show baN (sGu (mS σ i) u9 6) (sGu (mS σ i) u9 2) (hON (mS σ i) (nI i) (-1) 12) = (sGu (mS σ i) u9 6) from by rw [baN, if_neg (by rw [c54]; decide)])⟩
          obtain ⟨f1, m1, hf1⟩ := MW.house hw
          obtain ⟨f2, m2, hf2⟩ := MW.joined hw
          obtain ⟨f3, m3, hf3⟩ := MW.spooks hw
          obtain ⟨f4, m4, hf4⟩ := MW.people hw
          obtain ⟨f5, m5, hf5⟩ := MW.numbers hw
          refine lv_aload_n hx hb dX5_night_144 rfl (lv_at hl 6 rfl) ?_
          refine lv_iload_n hx hb dX5_night_145 rfl (lv_at hl 4 rfl) ?_
          refine lv_iconst (v := 2) hx hb dX5_night_146 (by decide) ?_
          refine m_cV 2 [.int (nI u9), .int 2] [] hx hb hml hown hts hK (c_pe l E A g M (uU (uU (uU (uU (uU (mS σ i) u9 3 (-1)) u9 4 0) u9 0 ((sGu (mS σ i) u9 0) - (due (mS σ i) i (nI u9)) + (ltB (mS σ i) i u9))) u9 5 ((sGu (mS σ i) u9 5) + 1)) u9 6 (baN (sGu (mS σ i) u9 6) (sGu (mS σ i) u9 2) (hON (mS σ i) (nI i) (-1) 12))) 0 hw u9 2 (by omega) (by omega)) gX5_night_X5_pe rfl rfl rfl (by decide +kernel) rfl ⟨Nat.le_of_ble_eq_true rfl, Nat.le_of_ble_eq_true rfl⟩ hM (MW.xk hw k9) rfl rfl hM hl.1 (Nat.le_of_ble_eq_true rfl) ⟨Nat.le_of_ble_eq_true rfl, Nat.le_of_ble_eq_true rfl⟩ rfl dX5_night_147 ?_
          refine W.eq (g2 := F0 m 150 ls [.int (sGu (uU (uU (uU (uU (uU (mS σ i) u9 3 (-1)) u9 4 0) u9 0 ((sGu (mS σ i) u9 0) - (due (mS σ i) i (nI u9)) + (ltB (mS σ i) i u9))) u9 5 ((sGu (mS σ i) u9 5) + 1)) u9 6 (baN (sGu (mS σ i) u9 6) (sGu (mS σ i) u9 2) (hON (mS σ i) (nI i) (-1) 12))) u9 2)]) rfl ?_
          rw [show (sGu (uU (uU (uU (uU (uU (mS σ i) u9 3 (-1)) u9 4 0) u9 0 ((sGu (mS σ i) u9 0) - (due (mS σ i) i (nI u9)) + (ltB (mS σ i) i u9))) u9 5 ((sGu (mS σ i) u9 5) + 1)) u9 6 (baN (sGu (mS σ i) u9 6) (sGu (mS σ i) u9 2) (hON (mS σ i) (nI i) (-1) 12))) u9 2 : Int32) = sGu (mS σ i) u9 2 from rfl]
          refine lv_if_lt (tgt := 192) hx hb dX5_night_150 (by decide) (fun c150 => ?_) (fun c150 => ?_)
          · obtain ⟨M, hM, hw⟩ : ∃ M', mP E A g M' H ∧ MW E g M' (uU (uU (uU (uU (uU (uU (mS σ i) u9 3 (-1)) u9 4 0) u9 0 ((sGu (mS σ i) u9 0) - (due (mS σ i) i (nI u9)) + (ltB (mS σ i) i u9))) u9 5 ((sGu (mS σ i) u9 5) + 1)) u9 6 (baN (sGu (mS σ i) u9 6) (sGu (mS σ i) u9 2) (hON (mS σ i) (nI i) (-1) 12))) u9 2 (nvN (sGu (mS σ i) u9 2) (hON (mS σ i) (nI i) (-1) 12))) 0 := ⟨_, hM, hw.same (show nvN (sGu (mS σ i) u9 2) (hON (mS σ i) (nI i) (-1) 12) = (sGu (mS σ i) u9 2) from by rw [nvN, frB_2 c150, if_neg (by decide), if_pos c150])⟩
            obtain ⟨f1, m1, hf1⟩ := MW.house hw
            obtain ⟨f2, m2, hf2⟩ := MW.joined hw
            obtain ⟨f3, m3, hf3⟩ := MW.spooks hw
            obtain ⟨f4, m4, hf4⟩ := MW.people hw
            obtain ⟨f5, m5, hf5⟩ := MW.numbers hw
            refine lv_iload hx hb dX5_night_192 (lv_at hl 0 rfl) ?_
            refine lv_if_eq (tgt := 213) hx hb dX5_night_194 (by decide) (fun c194 => ?_) (fun c9 => absurd (by rw [frB_2 c150]; rfl) c9)
            have c194 := bI_f c194
            obtain ⟨M, hM, hw⟩ : ∃ M', mP E A g M' H ∧ MW E g M' (uR (uU (uU (uU (uU (uU (uU (mS σ i) u9 3 (-1)) u9 4 0) u9 0 ((sGu (mS σ i) u9 0) - (due (mS σ i) i (nI u9)) + (ltB (mS σ i) i u9))) u9 5 ((sGu (mS σ i) u9 5) + 1)) u9 6 (baN (sGu (mS σ i) u9 6) (sGu (mS σ i) u9 2) (hON (mS σ i) (nI i) (-1) 12))) u9 2 (nvN (sGu (mS σ i) u9 2) (hON (mS σ i) (nI i) (-1) 12))) i 1 (rcN (sRm (mS σ i) i 1) (frB (sGu (mS σ i) u9 2) (hON (mS σ i) (nI i) (-1) 12)))) 0 := ⟨_, hM, hw.sameR (show rcN (sRm (mS σ i) i 1) (frB (sGu (mS σ i) u9 2) (hON (mS σ i) (nI i) (-1) 12)) = (sRm (mS σ i) i 1) from by rw [c194]; rfl)⟩
            obtain ⟨f1, m1, hf1⟩ := MW.house hw
            obtain ⟨f2, m2, hf2⟩ := MW.joined hw
            obtain ⟨f3, m3, hf3⟩ := MW.spooks hw
            obtain ⟨f4, m4, hf4⟩ := MW.people hw
            obtain ⟨f5, m5, hf5⟩ := MW.numbers hw
            refine lv_aload_n hx hb dX5_night_213 rfl (lv_at hl 6 rfl) ?_
            refine lv_iload_n hx hb dX5_night_214 rfl (lv_at hl 5 rfl) ?_
            refine lv_iconst (v := 3) hx hb dX5_night_215 (by decide) ?_
            refine lv_iconst (v := 1) hx hb dX5_night_216 (by decide) ?_
            refine m_wV 3 [.int (nI i), .int 3, .int 1] [] hx hb hml hown hts hK (c_addRo l E A g M (uR (uU (uU (uU (uU (uU (uU (mS σ i) u9 3 (-1)) u9 4 0) u9 0 ((sGu (mS σ i) u9 0) - (due (mS σ i) i (nI u9)) + (ltB (mS σ i) i u9))) u9 5 ((sGu (mS σ i) u9 5) + 1)) u9 6 (baN (sGu (mS σ i) u9 6) (sGu (mS σ i) u9 2) (hON (mS σ i) (nI i) (-1) 12))) u9 2 (nvN (sGu (mS σ i) u9 2) (hON (mS σ i) (nI i) (-1) 12))) i 1 (rcN (sRm (mS σ i) i 1) (frB (sGu (mS σ i) u9 2) (hON (mS σ i) (nI i) (-1) 12)))) 0 hw i 3 (by omega) (by omega) 1) gX5_night_X5_addRo rfl rfl rfl (by decide +kernel) rfl ⟨Nat.le_of_ble_eq_true rfl, Nat.le_of_ble_eq_true rfl⟩ hM (MW.xk hw k9) rfl rfl hM hl.1 (Nat.le_of_ble_eq_true rfl) ⟨Nat.le_of_ble_eq_true rfl, Nat.le_of_ble_eq_true rfl⟩ rfl dX5_night_217 hS (fun _ _ h => h) (fun _ h => h) (fun H locs hQ hz hk hS => ?_)
            refine W.eq (g2 := F0 m 220 ls []) rfl ?_
            obtain ⟨M, hM, hw⟩ := hQ
            have hw : MW E g M (uR (uR (uU (uU (uU (uU (uU (uU (mS σ i) u9 3 (-1)) u9 4 0) u9 0 ((sGu (mS σ i) u9 0) - (due (mS σ i) i (nI u9)) + (ltB (mS σ i) i u9))) u9 5 ((sGu (mS σ i) u9 5) + 1)) u9 6 (baN (sGu (mS σ i) u9 6) (sGu (mS σ i) u9 2) (hON (mS σ i) (nI i) (-1) 12))) u9 2 (nvN (sGu (mS σ i) u9 2) (hON (mS σ i) (nI i) (-1) 12))) i 1 (rcN (sRm (mS σ i) i 1) (frB (sGu (mS σ i) u9 2) (hON (mS σ i) (nI i) (-1) 12)))) i 3 (sRm (mS σ i) i 3 + 1)) 0 := hw
            obtain ⟨f1, m1, hf1⟩ := MW.house hw
            obtain ⟨f2, m2, hf2⟩ := MW.joined hw
            obtain ⟨f3, m3, hf3⟩ := MW.spooks hw
            obtain ⟨f4, m4, hf4⟩ := MW.people hw
            obtain ⟨f5, m5, hf5⟩ := MW.numbers hw
            refine lv_aload_n hx hb dX5_night_220 rfl (lv_at hl 6 rfl) ?_
            refine lv_iload_n hx hb dX5_night_221 rfl (lv_at hl 5 rfl) ?_
            refine lv_iconst (v := 4) hx hb dX5_night_222 (by decide) ?_
            refine lv_iload_n hx hb dX5_night_223 rfl (lv_at hl 3 rfl) ?_
            refine lv_iload hx hb dX5_night_224 (lv_at hl 1 rfl) ?_
            refine lv_isub hx hb dX5_night_226 ?_
            refine m_wV 3 [.int (nI i), .int 4, .int ((due (mS σ i) i (nI u9)) - (ltB (mS σ i) i u9))] [] hx hb hml hown hts hK (c_addRo l E A g M (uR (uR (uU (uU (uU (uU (uU (uU (mS σ i) u9 3 (-1)) u9 4 0) u9 0 ((sGu (mS σ i) u9 0) - (due (mS σ i) i (nI u9)) + (ltB (mS σ i) i u9))) u9 5 ((sGu (mS σ i) u9 5) + 1)) u9 6 (baN (sGu (mS σ i) u9 6) (sGu (mS σ i) u9 2) (hON (mS σ i) (nI i) (-1) 12))) u9 2 (nvN (sGu (mS σ i) u9 2) (hON (mS σ i) (nI i) (-1) 12))) i 1 (rcN (sRm (mS σ i) i 1) (frB (sGu (mS σ i) u9 2) (hON (mS σ i) (nI i) (-1) 12)))) i 3 (sRm (mS σ i) i 3 + 1)) 0 hw i 4 (by omega) (by omega) ((due (mS σ i) i (nI u9)) - (ltB (mS σ i) i u9))) gX5_night_X5_addRo rfl rfl rfl (by decide +kernel) rfl ⟨Nat.le_of_ble_eq_true rfl, Nat.le_of_ble_eq_true rfl⟩ hM (MW.xk hw k9) rfl rfl hM hl.1 (Nat.le_of_ble_eq_true rfl) ⟨Nat.le_of_ble_eq_true rfl, Nat.le_of_ble_eq_true rfl⟩ rfl dX5_night_227 hS (fun _ _ h => h) (fun _ h => h) (fun H locs hQ hz hk hS => ?_)
            refine W.eq (g2 := F0 m 230 ls []) rfl ?_
            obtain ⟨M, hM, hw⟩ := hQ
            have hw : MW E g M (uR (uR (uR (uU (uU (uU (uU (uU (uU (mS σ i) u9 3 (-1)) u9 4 0) u9 0 ((sGu (mS σ i) u9 0) - (due (mS σ i) i (nI u9)) + (ltB (mS σ i) i u9))) u9 5 ((sGu (mS σ i) u9 5) + 1)) u9 6 (baN (sGu (mS σ i) u9 6) (sGu (mS σ i) u9 2) (hON (mS σ i) (nI i) (-1) 12))) u9 2 (nvN (sGu (mS σ i) u9 2) (hON (mS σ i) (nI i) (-1) 12))) i 1 (rcN (sRm (mS σ i) i 1) (frB (sGu (mS σ i) u9 2) (hON (mS σ i) (nI i) (-1) 12)))) i 3 (sRm (mS σ i) i 3 + 1)) i 4 (sRm (mS σ i) i 4 + ((due (mS σ i) i (nI u9)) - (ltB (mS σ i) i u9)))) 0 := hw
            obtain ⟨f1, m1, hf1⟩ := MW.house hw
            obtain ⟨f2, m2, hf2⟩ := MW.joined hw
            obtain ⟨f3, m3, hf3⟩ := MW.spooks hw
            obtain ⟨f4, m4, hf4⟩ := MW.people hw
            obtain ⟨f5, m5, hf5⟩ := MW.numbers hw
            refine lv_aload_n hx hb dX5_night_230 rfl (lv_at hl 6 rfl) ?_
            refine m_get hx hb hts in_X5_night_X5 hown hK hM (MW.xk hw k9) rfl 9 (by decide) (by decide +kernel) rfl dX5_night_231 ?_
            refine lv_iconst (v := 1) hx hb dX5_night_234 (by decide) ?_
            refine lv_dup2_11 hx hb dX5_night_235 rfl rfl ?_
            refine m_iald (v := sH (mS σ i)) hx hb hK hM m5 (ix_ok (n := 1) ⟨by decide, by decide⟩) (hf5.2.1) dX5_night_236 ?_
            refine lv_iload_n hx hb dX5_night_237 rfl (lv_at hl 3 rfl) ?_
            refine lv_iload hx hb dX5_night_238 (lv_at hl 1 rfl) ?_
            refine lv_isub hx hb dX5_night_240 ?_
            refine lv_iadd hx hb dX5_night_241 ?_
            refine m_iast hx hb hK hM hS m5 (ix_ok (n := 1) ⟨by decide, by decide⟩) dX5_night_242 (fun H locs hM hz hS => ?_)
            obtain ⟨M, hM, hw⟩ : ∃ M', mP E A g M' H ∧ MW E g M' (uN (uR (uR (uR (uU (uU (uU (uU (uU (uU (mS σ i) u9 3 (-1)) u9 4 0) u9 0 ((sGu (mS σ i) u9 0) - (due (mS σ i) i (nI u9)) + (ltB (mS σ i) i u9))) u9 5 ((sGu (mS σ i) u9 5) + 1)) u9 6 (baN (sGu (mS σ i) u9 6) (sGu (mS σ i) u9 2) (hON (mS σ i) (nI i) (-1) 12))) u9 2 (nvN (sGu (mS σ i) u9 2) (hON (mS σ i) (nI i) (-1) 12))) i 1 (rcN (sRm (mS σ i) i 1) (frB (sGu (mS σ i) u9 2) (hON (mS σ i) (nI i) (-1) 12)))) i 3 (sRm (mS σ i) i 3 + 1)) i 4 (sRm (mS σ i) i 4 + ((due (mS σ i) i (nI u9)) - (ltB (mS σ i) i u9)))) (sN (mS σ i)) (sH (mS σ i) + ((due (mS σ i) i (nI u9)) - (ltB (mS σ i) i u9))) (sB (mS σ i))) 0 := ⟨_, hM, MW.putN (n := sN (mS σ i)) (h := sH (mS σ i) + ((due (mS σ i) i (nI u9)) - (ltB (mS σ i) i u9))) (b := sB (mS σ i)) hw ((pk_un (by decide)).trans hf5.1) pk_us ((pk_un (by decide)).trans hf5.2.2)⟩
            obtain ⟨f1, m1, hf1⟩ := MW.house hw
            obtain ⟨f2, m2, hf2⟩ := MW.joined hw
            obtain ⟨f3, m3, hf3⟩ := MW.spooks hw
            obtain ⟨f4, m4, hf4⟩ := MW.people hw
            obtain ⟨f5, m5, hf5⟩ := MW.numbers hw
            refine lv_aload_n hx hb dX5_night_243 rfl (lv_at hl 6 rfl) ?_
            refine m_get hx hb hts in_X5_night_X5 hown hK hM (MW.xk hw k9) rfl 9 (by decide) (by decide +kernel) rfl dX5_night_244 ?_
            refine lv_iconst (v := 2) hx hb dX5_night_247 (by decide) ?_
            refine lv_dup2_11 hx hb dX5_night_248 rfl rfl ?_
            refine m_iald (v := sB (mS σ i)) hx hb hK hM m5 (ix_ok (n := 2) ⟨by decide, by decide⟩) (hf5.2.2) dX5_night_249 ?_
            refine lv_iload hx hb dX5_night_250 (lv_at hl 1 rfl) ?_
            refine lv_iadd hx hb dX5_night_252 ?_
            refine m_iast hx hb hK hM hS m5 (ix_ok (n := 2) ⟨by decide, by decide⟩) dX5_night_253 (fun H locs hM hz hS => ?_)
            obtain ⟨M, hM, hw⟩ : ∃ M', mP E A g M' H ∧ MW E g M' (uN (uR (uR (uR (uU (uU (uU (uU (uU (uU (mS σ i) u9 3 (-1)) u9 4 0) u9 0 ((sGu (mS σ i) u9 0) - (due (mS σ i) i (nI u9)) + (ltB (mS σ i) i u9))) u9 5 ((sGu (mS σ i) u9 5) + 1)) u9 6 (baN (sGu (mS σ i) u9 6) (sGu (mS σ i) u9 2) (hON (mS σ i) (nI i) (-1) 12))) u9 2 (nvN (sGu (mS σ i) u9 2) (hON (mS σ i) (nI i) (-1) 12))) i 1 (rcN (sRm (mS σ i) i 1) (frB (sGu (mS σ i) u9 2) (hON (mS σ i) (nI i) (-1) 12)))) i 3 (sRm (mS σ i) i 3 + 1)) i 4 (sRm (mS σ i) i 4 + ((due (mS σ i) i (nI u9)) - (ltB (mS σ i) i u9)))) (sN (mS σ i)) (sH (mS σ i) + ((due (mS σ i) i (nI u9)) - (ltB (mS σ i) i u9))) (sB (mS σ i) + (ltB (mS σ i) i u9))) 0 := ⟨_, hM, MW.putN (σ := uN (uR (uR (uR (uU (uU (uU (uU (uU (uU (mS σ i) u9 3 (-1)) u9 4 0) u9 0 ((sGu (mS σ i) u9 0) - (due (mS σ i) i (nI u9)) + (ltB (mS σ i) i u9))) u9 5 ((sGu (mS σ i) u9 5) + 1)) u9 6 (baN (sGu (mS σ i) u9 6) (sGu (mS σ i) u9 2) (hON (mS σ i) (nI i) (-1) 12))) u9 2 (nvN (sGu (mS σ i) u9 2) (hON (mS σ i) (nI i) (-1) 12))) i 1 (rcN (sRm (mS σ i) i 1) (frB (sGu (mS σ i) u9 2) (hON (mS σ i) (nI i) (-1) 12)))) i 3 (sRm (mS σ i) i 3 + 1)) i 4 (sRm (mS σ i) i 4 + ((due (mS σ i) i (nI u9)) - (ltB (mS σ i) i u9)))) (sN (mS σ i)) (sH (mS σ i) + ((due (mS σ i) i (nI u9)) - (ltB (mS σ i) i u9))) (sB (mS σ i))) (n := sN (mS σ i)) (h := sH (mS σ i) + ((due (mS σ i) i (nI u9)) - (ltB (mS σ i) i u9))) (b := sB (mS σ i) + (ltB (mS σ i) i u9)) hw ((pk_un (by decide)).trans hf5.1) ((pk_un (by decide)).trans hf5.2.1) pk_us⟩
            obtain ⟨f1, m1, hf1⟩ := MW.house hw
            obtain ⟨f2, m2, hf2⟩ := MW.joined hw
            obtain ⟨f3, m3, hf3⟩ := MW.spooks hw
            obtain ⟨f4, m4, hf4⟩ := MW.people hw
            obtain ⟨f5, m5, hf5⟩ := MW.numbers hw
            refine lv_iinc (v := nI (i + 1)) (lv' := [(1, .int (nI (i + 1))), (6, .int (bI (frB (sGu (mS σ i) u9 2) (hON (mS σ i) (nI i) (-1) 12)))), (5, .int (ltB (mS σ i) i u9)), (4, .int (bI (upB (sGu (mS σ i) u9 2) (hON (mS σ i) (nI i) (-1) 12)))), (3, .int (due (mS σ i) i (nI u9))), (2, .int (nI u9)), (0, .ref (g 0))]) hx hb dX5_night_254 hl (k := 5) rfl (m_inc _) (by decide) rfl (fun ls hl => ?_)
            refine lv_goto (tgt := 7) hx hb dX5_night_257 (by decide) ?_
            exact ih7 (i + 1) (by omega) _ _ _ ⟨hM, by rw [mS, ← mlF_eq (by omega) hw9]; exact hw⟩ hS ls (lv_sub hl [0, 6] rfl)
          · refine lv_aload_n hx hb dX5_night_153 rfl (lv_at hl 6 rfl) ?_
            refine lv_iload_n hx hb dX5_night_154 rfl (lv_at hl 4 rfl) ?_
            refine lv_iconst (v := 2) hx hb dX5_night_155 (by decide) ?_
            refine lv_iload hx hb dX5_night_156 (lv_at hl 0 rfl) ?_
            refine lv_if_eq (tgt := 176) hx hb dX5_night_158 (by decide) (fun c158 => ?_) (fun c9 => absurd (by rw [frB_3 c54]; rfl) c9)
            have c158 := bI_f c158
            refine lv_bipush (v := 90) hx hb dX5_night_176 (by decide) ?_
            refine lv_aload_n hx hb dX5_night_178 rfl (lv_at hl 6 rfl) ?_
            refine lv_iload_n hx hb dX5_night_179 rfl (lv_at hl 4 rfl) ?_
            refine lv_iconst (v := 2) hx hb dX5_night_180 (by decide) ?_
            refine m_cV 2 [.int (nI u9), .int 2] [.int 90, .int 2, .int (nI u9), .ref (g 0)] hx hb hml hown hts hK (c_pe l E A g M (uU (uU (uU (uU (uU (mS σ i) u9 3 (-1)) u9 4 0) u9 0 ((sGu (mS σ i) u9 0) - (due (mS σ i) i (nI u9)) + (ltB (mS σ i) i u9))) u9 5 ((sGu (mS σ i) u9 5) + 1)) u9 6 (baN (sGu (mS σ i) u9 6) (sGu (mS σ i) u9 2) (hON (mS σ i) (nI i) (-1) 12))) 0 hw u9 2 (by omega) (by omega)) gX5_night_X5_pe rfl rfl rfl (by decide +kernel) rfl ⟨Nat.le_of_ble_eq_true rfl, Nat.le_of_ble_eq_true rfl⟩ hM (MW.xk hw k9) rfl rfl hM hl.1 (Nat.le_of_ble_eq_true rfl) ⟨Nat.le_of_ble_eq_true rfl, Nat.le_of_ble_eq_true rfl⟩ rfl dX5_night_181 ?_
            refine W.eq (g2 := F0 m 184 ls [.int (sGu (uU (uU (uU (uU (uU (mS σ i) u9 3 (-1)) u9 4 0) u9 0 ((sGu (mS σ i) u9 0) - (due (mS σ i) i (nI u9)) + (ltB (mS σ i) i u9))) u9 5 ((sGu (mS σ i) u9 5) + 1)) u9 6 (baN (sGu (mS σ i) u9 6) (sGu (mS σ i) u9 2) (hON (mS σ i) (nI i) (-1) 12))) u9 2), .int 90, .int 2, .int (nI u9), .ref (g 0)]) rfl ?_
            rw [show (sGu (uU (uU (uU (uU (uU (mS σ i) u9 3 (-1)) u9 4 0) u9 0 ((sGu (mS σ i) u9 0) - (due (mS σ i) i (nI u9)) + (ltB (mS σ i) i u9))) u9 5 ((sGu (mS σ i) u9 5) + 1)) u9 6 (baN (sGu (mS σ i) u9 6) (sGu (mS σ i) u9 2) (hON (mS σ i) (nI i) (-1) 12))) u9 2 : Int32) = sGu (mS σ i) u9 2 from rfl]
            refine lv_iconst (v := 1) hx hb dX5_night_184 (by decide) ?_
            refine lv_iadd hx hb dX5_night_185 ?_
            refine va_mmin hx hb (hml.trans hl.1.symm) hown (hts (.methodLink RX5 130 Lib.Math.min.name) (by decide +kernel)) (hts (.static Lib.Math.min.name) (by decide +kernel)) (hts (.initialized "java/lang/Math") (by decide +kernel)) (hts (.code Lib.Math.min.name Lib.Math.min.code 2 (some .int)) (by decide +kernel)) (Nat.le_of_ble_eq_true rfl) (Nat.le_of_ble_eq_true rfl) (Nat.zero_le _) (Nat.zero_le _) dX5_night_186 ?_
            refine m_wV 3 [.int (nI u9), .int 2, .int (if ((sGu (mS σ i) u9 2) + 1) < 90 then ((sGu (mS σ i) u9 2) + 1) else 90)] [] hx hb hml hown hts hK (c_set l E A g M (uU (uU (uU (uU (uU (mS σ i) u9 3 (-1)) u9 4 0) u9 0 ((sGu (mS σ i) u9 0) - (due (mS σ i) i (nI u9)) + (ltB (mS σ i) i u9))) u9 5 ((sGu (mS σ i) u9 5) + 1)) u9 6 (baN (sGu (mS σ i) u9 6) (sGu (mS σ i) u9 2) (hON (mS σ i) (nI i) (-1) 12))) 0 hw u9 2 (by omega) (by omega) (if ((sGu (mS σ i) u9 2) + 1) < 90 then ((sGu (mS σ i) u9 2) + 1) else 90)) gX5_night_X5_set rfl rfl rfl (by decide +kernel) rfl ⟨Nat.le_of_ble_eq_true rfl, Nat.le_of_ble_eq_true rfl⟩ hM (MW.xk hw k9) rfl rfl hM hl.1 (Nat.le_of_ble_eq_true rfl) ⟨Nat.le_of_ble_eq_true rfl, Nat.le_of_ble_eq_true rfl⟩ rfl dX5_night_189 hS (fun _ _ h => h) (fun _ h => h) (fun H locs hQ hz hk hS => ?_)
            refine W.eq (g2 := F0 m 192 ls []) rfl ?_
            obtain ⟨M, hM, hw⟩ := hQ
            obtain ⟨f1, m1, hf1⟩ := MW.house hw
            obtain ⟨f2, m2, hf2⟩ := MW.joined hw
            obtain ⟨f3, m3, hf3⟩ := MW.spooks hw
            obtain ⟨f4, m4, hf4⟩ := MW.people hw
            obtain ⟨f5, m5, hf5⟩ := MW.numbers hw
            obtain ⟨M, hM, hw⟩ : ∃ M', mP E A g M' H ∧ MW E g M' (uU (uU (uU (uU (uU (uU (mS σ i) u9 3 (-1)) u9 4 0) u9 0 ((sGu (mS σ i) u9 0) - (due (mS σ i) i (nI u9)) + (ltB (mS σ i) i u9))) u9 5 ((sGu (mS σ i) u9 5) + 1)) u9 6 (baN (sGu (mS σ i) u9 6) (sGu (mS σ i) u9 2) (hON (mS σ i) (nI i) (-1) 12))) u9 2 (nvN (sGu (mS σ i) u9 2) (hON (mS σ i) (nI i) (-1) 12))) 0 := ⟨_, hM, by rw [nvN, if_neg (by rw [c158]; decide), if_neg c150, ← mn90]; exact hw⟩
            obtain ⟨f1, m1, hf1⟩ := MW.house hw
            obtain ⟨f2, m2, hf2⟩ := MW.joined hw
            obtain ⟨f3, m3, hf3⟩ := MW.spooks hw
            obtain ⟨f4, m4, hf4⟩ := MW.people hw
            obtain ⟨f5, m5, hf5⟩ := MW.numbers hw
            refine lv_iload hx hb dX5_night_192 (lv_at hl 0 rfl) ?_
            refine lv_if_eq (tgt := 213) hx hb dX5_night_194 (by decide) (fun c194 => ?_) (fun c9 => absurd (by rw [c158]; rfl) c9)
            have c194 := bI_f c194
            obtain ⟨M, hM, hw⟩ : ∃ M', mP E A g M' H ∧ MW E g M' (uR (uU (uU (uU (uU (uU (uU (mS σ i) u9 3 (-1)) u9 4 0) u9 0 ((sGu (mS σ i) u9 0) - (due (mS σ i) i (nI u9)) + (ltB (mS σ i) i u9))) u9 5 ((sGu (mS σ i) u9 5) + 1)) u9 6 (baN (sGu (mS σ i) u9 6) (sGu (mS σ i) u9 2) (hON (mS σ i) (nI i) (-1) 12))) u9 2 (nvN (sGu (mS σ i) u9 2) (hON (mS σ i) (nI i) (-1) 12))) i 1 (rcN (sRm (mS σ i) i 1) (frB (sGu (mS σ i) u9 2) (hON (mS σ i) (nI i) (-1) 12)))) 0 := ⟨_, hM, hw.sameR (show rcN (sRm (mS σ i) i 1) (frB (sGu (mS σ i) u9 2) (hON (mS σ i) (nI i) (-1) 12)) = (sRm (mS σ i) i 1) from by rw [c194]; rfl)⟩
            obtain ⟨f1, m1, hf1⟩ := MW.house hw
            obtain ⟨f2, m2, hf2⟩ := MW.joined hw
            obtain ⟨f3, m3, hf3⟩ := MW.spooks hw
            obtain ⟨f4, m4, hf4⟩ := MW.people hw
            obtain ⟨f5, m5, hf5⟩ := MW.numbers hw
            refine lv_aload_n hx hb dX5_night_213 rfl (lv_at hl 6 rfl) ?_
            refine lv_iload_n hx hb dX5_night_214 rfl (lv_at hl 5 rfl) ?_
            refine lv_iconst (v := 3) hx hb dX5_night_215 (by decide) ?_
            refine lv_iconst (v := 1) hx hb dX5_night_216 (by decide) ?_
            refine m_wV 3 [.int (nI i), .int 3, .int 1] [] hx hb hml hown hts hK (c_addRo l E A g M (uR (uU (uU (uU (uU (uU (uU (mS σ i) u9 3 (-1)) u9 4 0) u9 0 ((sGu (mS σ i) u9 0) - (due (mS σ i) i (nI u9)) + (ltB (mS σ i) i u9))) u9 5 ((sGu (mS σ i) u9 5) + 1)) u9 6 (baN (sGu (mS σ i) u9 6) (sGu (mS σ i) u9 2) (hON (mS σ i) (nI i) (-1) 12))) u9 2 (nvN (sGu (mS σ i) u9 2) (hON (mS σ i) (nI i) (-1) 12))) i 1 (rcN (sRm (mS σ i) i 1) (frB (sGu (mS σ i) u9 2) (hON (mS σ i) (nI i) (-1) 12)))) 0 hw i 3 (by omega) (by omega) 1) gX5_night_X5_addRo rfl rfl rfl (by decide +kernel) rfl ⟨Nat.le_of_ble_eq_true rfl, Nat.le_of_ble_eq_true rfl⟩ hM (MW.xk hw k9) rfl rfl hM hl.1 (Nat.le_of_ble_eq_true rfl) ⟨Nat.le_of_ble_eq_true rfl, Nat.le_of_ble_eq_true rfl⟩ rfl dX5_night_217 hS (fun _ _ h => h) (fun _ h => h) (fun H locs hQ hz hk hS => ?_)
            refine W.eq (g2 := F0 m 220 ls []) rfl ?_
            obtain ⟨M, hM, hw⟩ := hQ
            have hw : MW E g M (uR (uR (uU (uU (uU (uU (uU (uU (mS σ i) u9 3 (-1)) u9 4 0) u9 0 ((sGu (mS σ i) u9 0) - (due (mS σ i) i (nI u9)) + (ltB (mS σ i) i u9))) u9 5 ((sGu (mS σ i) u9 5) + 1)) u9 6 (baN (sGu (mS σ i) u9 6) (sGu (mS σ i) u9 2) (hON (mS σ i) (nI i) (-1) 12))) u9 2 (nvN (sGu (mS σ i) u9 2) (hON (mS σ i) (nI i) (-1) 12))) i 1 (rcN (sRm (mS σ i) i 1) (frB (sGu (mS σ i) u9 2) (hON (mS σ i) (nI i) (-1) 12)))) i 3 (sRm (mS σ i) i 3 + 1)) 0 := hw
            obtain ⟨f1, m1, hf1⟩ := MW.house hw
            obtain ⟨f2, m2, hf2⟩ := MW.joined hw
            obtain ⟨f3, m3, hf3⟩ := MW.spooks hw
            obtain ⟨f4, m4, hf4⟩ := MW.people hw
            obtain ⟨f5, m5, hf5⟩ := MW.numbers hw
            refine lv_aload_n hx hb dX5_night_220 rfl (lv_at hl 6 rfl) ?_
            refine lv_iload_n hx hb dX5_night_221 rfl (lv_at hl 5 rfl) ?_
            refine lv_iconst (v := 4) hx hb dX5_night_222 (by decide) ?_
            refine lv_iload_n hx hb dX5_night_223 rfl (lv_at hl 3 rfl) ?_
            refine lv_iload hx hb dX5_night_224 (lv_at hl 1 rfl) ?_
            refine lv_isub hx hb dX5_night_226 ?_
            refine m_wV 3 [.int (nI i), .int 4, .int ((due (mS σ i) i (nI u9)) - (ltB (mS σ i) i u9))] [] hx hb hml hown hts hK (c_addRo l E A g M (uR (uR (uU (uU (uU (uU (uU (uU (mS σ i) u9 3 (-1)) u9 4 0) u9 0 ((sGu (mS σ i) u9 0) - (due (mS σ i) i (nI u9)) + (ltB (mS σ i) i u9))) u9 5 ((sGu (mS σ i) u9 5) + 1)) u9 6 (baN (sGu (mS σ i) u9 6) (sGu (mS σ i) u9 2) (hON (mS σ i) (nI i) (-1) 12))) u9 2 (nvN (sGu (mS σ i) u9 2) (hON (mS σ i) (nI i) (-1) 12))) i 1 (rcN (sRm (mS σ i) i 1) (frB (sGu (mS σ i) u9 2) (hON (mS σ i) (nI i) (-1) 12)))) i 3 (sRm (mS σ i) i 3 + 1)) 0 hw i 4 (by omega) (by omega) ((due (mS σ i) i (nI u9)) - (ltB (mS σ i) i u9))) gX5_night_X5_addRo rfl rfl rfl (by decide +kernel) rfl ⟨Nat.le_of_ble_eq_true rfl, Nat.le_of_ble_eq_true rfl⟩ hM (MW.xk hw k9) rfl rfl hM hl.1 (Nat.le_of_ble_eq_true rfl) ⟨Nat.le_of_ble_eq_true rfl, Nat.le_of_ble_eq_true rfl⟩ rfl dX5_night_227 hS (fun _ _ h => h) (fun _ h => h) (fun H locs hQ hz hk hS => ?_)
            refine W.eq (g2 := F0 m 230 ls []) rfl ?_
            obtain ⟨M, hM, hw⟩ := hQ
            have hw : MW E g M (uR (uR (uR (uU (uU (uU (uU (uU (uU (mS σ i) u9 3 (-1)) u9 4 0) u9 0 ((sGu (mS σ i) u9 0) - (due (mS σ i) i (nI u9)) + (ltB (mS σ i) i u9))) u9 5 ((sGu (mS σ i) u9 5) + 1)) u9 6 (baN (sGu (mS σ i) u9 6) (sGu (mS σ i) u9 2) (hON (mS σ i) (nI i) (-1) 12))) u9 2 (nvN (sGu (mS σ i) u9 2) (hON (mS σ i) (nI i) (-1) 12))) i 1 (rcN (sRm (mS σ i) i 1) (frB (sGu (mS σ i) u9 2) (hON (mS σ i) (nI i) (-1) 12)))) i 3 (sRm (mS σ i) i 3 + 1)) i 4 (sRm (mS σ i) i 4 + ((due (mS σ i) i (nI u9)) - (ltB (mS σ i) i u9)))) 0 := hw
            obtain ⟨f1, m1, hf1⟩ := MW.house hw
            obtain ⟨f2, m2, hf2⟩ := MW.joined hw
            obtain ⟨f3, m3, hf3⟩ := MW.spooks hw
            obtain ⟨f4, m4, hf4⟩ := MW.people hw
            obtain ⟨f5, m5, hf5⟩ := MW.numbers hw
            refine lv_aload_n hx hb dX5_night_230 rfl (lv_at hl 6 rfl) ?_
            refine m_get hx hb hts in_X5_night_X5 hown hK hM (MW.xk hw k9) rfl 9 (by decide) (by decide +kernel) rfl dX5_night_231 ?_
            refine lv_iconst (v := 1) hx hb dX5_night_234 (by decide) ?_
            refine lv_dup2_11 hx hb dX5_night_235 rfl rfl ?_
            refine m_iald (v := sH (mS σ i)) hx hb hK hM m5 (ix_ok (n := 1) ⟨by decide, by decide⟩) (hf5.2.1) dX5_night_236 ?_
            refine lv_iload_n hx hb dX5_night_237 rfl (lv_at hl 3 rfl) ?_
            refine lv_iload hx hb dX5_night_238 (lv_at hl 1 rfl) ?_
            refine lv_isub hx hb dX5_night_240 ?_
            refine lv_iadd hx hb dX5_night_241 ?_
            refine m_iast hx hb hK hM hS m5 (ix_ok (n := 1) ⟨by decide, by decide⟩) dX5_night_242 (fun H locs hM hz hS => ?_)
            obtain ⟨M, hM, hw⟩ : ∃ M', mP E A g M' H ∧ MW E g M' (uN (uR (uR (uR (uU (uU (uU (uU (uU (uU (mS σ i) u9 3 (-1)) u9 4 0) u9 0 ((sGu (mS σ i) u9 0) - (due (mS σ i) i (nI u9)) + (ltB (mS σ i) i u9))) u9 5 ((sGu (mS σ i) u9 5) + 1)) u9 6 (baN (sGu (mS σ i) u9 6) (sGu (mS σ i) u9 2) (hON (mS σ i) (nI i) (-1) 12))) u9 2 (nvN (sGu (mS σ i) u9 2) (hON (mS σ i) (nI i) (-1) 12))) i 1 (rcN (sRm (mS σ i) i 1) (frB (sGu (mS σ i) u9 2) (hON (mS σ i) (nI i) (-1) 12)))) i 3 (sRm (mS σ i) i 3 + 1)) i 4 (sRm (mS σ i) i 4 + ((due (mS σ i) i (nI u9)) - (ltB (mS σ i) i u9)))) (sN (mS σ i)) (sH (mS σ i) + ((due (mS σ i) i (nI u9)) - (ltB (mS σ i) i u9))) (sB (mS σ i))) 0 := ⟨_, hM, MW.putN (n := sN (mS σ i)) (h := sH (mS σ i) + ((due (mS σ i) i (nI u9)) - (ltB (mS σ i) i u9))) (b := sB (mS σ i)) hw ((pk_un (by decide)).trans hf5.1) pk_us ((pk_un (by decide)).trans hf5.2.2)⟩
            obtain ⟨f1, m1, hf1⟩ := MW.house hw
            obtain ⟨f2, m2, hf2⟩ := MW.joined hw
            obtain ⟨f3, m3, hf3⟩ := MW.spooks hw
            obtain ⟨f4, m4, hf4⟩ := MW.people hw
            obtain ⟨f5, m5, hf5⟩ := MW.numbers hw
            refine lv_aload_n hx hb dX5_night_243 rfl (lv_at hl 6 rfl) ?_
            refine m_get hx hb hts in_X5_night_X5 hown hK hM (MW.xk hw k9) rfl 9 (by decide) (by decide +kernel) rfl dX5_night_244 ?_
            refine lv_iconst (v := 2) hx hb dX5_night_247 (by decide) ?_
            refine lv_dup2_11 hx hb dX5_night_248 rfl rfl ?_
            refine m_iald (v := sB (mS σ i)) hx hb hK hM m5 (ix_ok (n := 2) ⟨by decide, by decide⟩) (hf5.2.2) dX5_night_249 ?_
            refine lv_iload hx hb dX5_night_250 (lv_at hl 1 rfl) ?_
            refine lv_iadd hx hb dX5_night_252 ?_
            refine m_iast hx hb hK hM hS m5 (ix_ok (n := 2) ⟨by decide, by decide⟩) dX5_night_253 (fun H locs hM hz hS => ?_)
            obtain ⟨M, hM, hw⟩ : ∃ M', mP E A g M' H ∧ MW E g M' (uN (uR (uR (uR (uU (uU (uU (uU (uU (uU (mS σ i) u9 3 (-1)) u9 4 0) u9 0 ((sGu (mS σ i) u9 0) - (due (mS σ i) i (nI u9)) + (ltB (mS σ i) i u9))) u9 5 ((sGu (mS σ i) u9 5) + 1)) u9 6 (baN (sGu (mS σ i) u9 6) (sGu (mS σ i) u9 2) (hON (mS σ i) (nI i) (-1) 12))) u9 2 (nvN (sGu (mS σ i) u9 2) (hON (mS σ i) (nI i) (-1) 12))) i 1 (rcN (sRm (mS σ i) i 1) (frB (sGu (mS σ i) u9 2) (hON (mS σ i) (nI i) (-1) 12)))) i 3 (sRm (mS σ i) i 3 + 1)) i 4 (sRm (mS σ i) i 4 + ((due (mS σ i) i (nI u9)) - (ltB (mS σ i) i u9)))) (sN (mS σ i)) (sH (mS σ i) + ((due (mS σ i) i (nI u9)) - (ltB (mS σ i) i u9))) (sB (mS σ i) + (ltB (mS σ i) i u9))) 0 := ⟨_, hM, MW.putN (σ := uN (uR (uR (uR (uU (uU (uU (uU (uU (uU (mS σ i) u9 3 (-1)) u9 4 0) u9 0 ((sGu (mS σ i) u9 0) - (due (mS σ i) i (nI u9)) + (ltB (mS σ i) i u9))) u9 5 ((sGu (mS σ i) u9 5) + 1)) u9 6 (baN (sGu (mS σ i) u9 6) (sGu (mS σ i) u9 2) (hON (mS σ i) (nI i) (-1) 12))) u9 2 (nvN (sGu (mS σ i) u9 2) (hON (mS σ i) (nI i) (-1) 12))) i 1 (rcN (sRm (mS σ i) i 1) (frB (sGu (mS σ i) u9 2) (hON (mS σ i) (nI i) (-1) 12)))) i 3 (sRm (mS σ i) i 3 + 1)) i 4 (sRm (mS σ i) i 4 + ((due (mS σ i) i (nI u9)) - (ltB (mS σ i) i u9)))) (sN (mS σ i)) (sH (mS σ i) + ((due (mS σ i) i (nI u9)) - (ltB (mS σ i) i u9))) (sB (mS σ i))) (n := sN (mS σ i)) (h := sH (mS σ i) + ((due (mS σ i) i (nI u9)) - (ltB (mS σ i) i u9))) (b := sB (mS σ i) + (ltB (mS σ i) i u9)) hw ((pk_un (by decide)).trans hf5.1) ((pk_un (by decide)).trans hf5.2.1) pk_us⟩
            obtain ⟨f1, m1, hf1⟩ := MW.house hw
            obtain ⟨f2, m2, hf2⟩ := MW.joined hw
            obtain ⟨f3, m3, hf3⟩ := MW.spooks hw
            obtain ⟨f4, m4, hf4⟩ := MW.people hw
            obtain ⟨f5, m5, hf5⟩ := MW.numbers hw
            refine lv_iinc (v := nI (i + 1)) (lv' := [(1, .int (nI (i + 1))), (6, .int (bI (frB (sGu (mS σ i) u9 2) (hON (mS σ i) (nI i) (-1) 12)))), (5, .int (ltB (mS σ i) i u9)), (4, .int (bI (upB (sGu (mS σ i) u9 2) (hON (mS σ i) (nI i) (-1) 12)))), (3, .int (due (mS σ i) i (nI u9))), (2, .int (nI u9)), (0, .ref (g 0))]) hx hb dX5_night_254 hl (k := 5) rfl (m_inc _) (by decide) rfl (fun ls hl => ?_)
            refine lv_goto (tgt := 7) hx hb dX5_night_257 (by decide) ?_
            exact ih7 (i + 1) (by omega) _ _ _ ⟨hM, by rw [mS, ← mlF_eq (by omega) hw9]; exact hw⟩ hS ls (lv_sub hl [0, 6] rfl)
        · have c54 := bI_t c54
          refine lv_iload_n hx hb dX5_night_57 rfl (lv_at hl 1 rfl) ?_
          refine lv_iconst (v := 2) hx hb dX5_night_58 (by decide) ?_
          refine lv_idiv hx hb dX5_night_59 (by decide) ?_
          rw [show ((due (mS σ i) i (nI u9)) / 2 : Int32) = ltB (mS σ i) i u9 from by rw [ltB, if_pos c54]]
          refine lv_goto (tgt := 64) hx hb dX5_night_60 (by decide) ?_
          refine lv_istore (lv' := [(5, .int (ltB (mS σ i) i u9)), (4, .int (bI (upB (sGu (mS σ i) u9 2) (hON (mS σ i) (nI i) (-1) 12)))), (3, .int (due (mS σ i) i (nI u9))), (2, .int (nI u9)), (1, .int (nI i)), (0, .ref (g 0))]) hx hb dX5_night_64 hl (by decide) rfl (fun ls hl => ?_)
          refine lv_iload hx hb dX5_night_66 (lv_at hl 1 rfl) ?_
          refine lv_if_eq (tgt := 84) hx hb dX5_night_68 (by decide) (fun c9 => absurd c9 (by rw [c54]; decide)) (fun c68 => ?_)
          have c68 := bI_t c68
          refine lv_aload_n hx hb dX5_night_71 rfl (lv_at hl 5 rfl) ?_
          refine lv_iload_n hx hb dX5_night_72 rfl (lv_at hl 3 rfl) ?_
          refine lv_iconst (v := 2) hx hb dX5_night_73 (by decide) ?_
          refine m_cV 2 [.int (nI u9), .int 2] [] hx hb hml hown hts hK (c_pe l E A g M (mS σ i) 0 hw u9 2 (by omega) (by omega)) gX5_night_X5_pe rfl rfl rfl (by decide +kernel) rfl ⟨Nat.le_of_ble_eq_true rfl, Nat.le_of_ble_eq_true rfl⟩ hM (MW.xk hw k9) rfl rfl hM hl.1 (Nat.le_of_ble_eq_true rfl) ⟨Nat.le_of_ble_eq_true rfl, Nat.le_of_ble_eq_true rfl⟩ rfl dX5_night_74 ?_
          refine W.eq (g2 := F0 m 77 ls [.int (sGu (mS σ i) u9 2)]) rfl ?_
          rw [show (sGu (mS σ i) u9 2 : Int32) = sGu (mS σ i) u9 2 from rfl]
          refine lv_if_lt (tgt := 84) hx hb dX5_night_77 (by decide) (fun c77 => ?_) (fun c77 => ?_)
          · refine lv_iconst (v := 0) hx hb dX5_night_84 (by decide) ?_
            refine W.eq (g2 := F0 m 85 ls [.int (bI (frB (sGu (mS σ i) u9 2) (hON (mS σ i) (nI i) (-1) 12)))]) (by rw [frB_2 c77]; rfl) ?_
            refine lv_istore (lv' := [(6, .int (bI (frB (sGu (mS σ i) u9 2) (hON (mS σ i) (nI i) (-1) 12)))), (5, .int (ltB (mS σ i) i u9)), (4, .int (bI (upB (sGu (mS σ i) u9 2) (hON (mS σ i) (nI i) (-1) 12)))), (3, .int (due (mS σ i) i (nI u9))), (2, .int (nI u9)), (1, .int (nI i)), (0, .ref (g 0))]) hx hb dX5_night_85 hl (by decide) rfl (fun ls hl => ?_)
            refine lv_aload_n hx hb dX5_night_87 rfl (lv_at hl 6 rfl) ?_
            refine lv_iload_n hx hb dX5_night_88 rfl (lv_at hl 4 rfl) ?_
            refine m_wV 1 [.int (nI u9)] [] hx hb hml hown hts hK (c_withdraw l E A g M (mS σ i) 0 hw u9 (by omega)) gX5_night_X5_withdraw rfl rfl rfl (by decide +kernel) rfl ⟨Nat.le_of_ble_eq_true rfl, Nat.le_of_ble_eq_true rfl⟩ hM (MW.xk hw k9) rfl rfl hM hl.1 (Nat.le_of_ble_eq_true rfl) ⟨Nat.le_of_ble_eq_true rfl, Nat.le_of_ble_eq_true rfl⟩ rfl dX5_night_89 hS (fun _ _ h => h) (fun _ h => h) (fun H locs hQ hz hk hS => ?_)
            refine W.eq (g2 := F0 m 92 ls []) rfl ?_
            obtain ⟨M, hM, hw⟩ := hQ
            obtain ⟨f1, m1, hf1⟩ := MW.house hw
            obtain ⟨f2, m2, hf2⟩ := MW.joined hw
            obtain ⟨f3, m3, hf3⟩ := MW.spooks hw
            obtain ⟨f4, m4, hf4⟩ := MW.people hw
            obtain ⟨f5, m5, hf5⟩ := MW.numbers hw
            refine lv_aload_n hx hb dX5_night_92 rfl (lv_at hl 6 rfl) ?_
            refine lv_iload_n hx hb dX5_night_93 rfl (lv_at hl 4 rfl) ?_
            refine lv_iconst (v := 0) hx hb dX5_night_94 (by decide) ?_
            refine lv_aload_n hx hb dX5_night_95 rfl (lv_at hl 6 rfl) ?_
            refine lv_iload_n hx hb dX5_night_96 rfl (lv_at hl 4 rfl) ?_
            refine lv_iconst (v := 0) hx hb dX5_night_97 (by decide) ?_
            refine m_cV 2 [.int (nI u9), .int 0] [.int 0, .int (nI u9), .ref (g 0)] hx hb hml hown hts hK (c_pe l E A g M (uU (uU (mS σ i) u9 3 (-1)) u9 4 0) 0 hw u9 0 (by omega) (by omega)) gX5_night_X5_pe rfl rfl rfl (by decide +kernel) rfl ⟨Nat.le_of_ble_eq_true rfl, Nat.le_of_ble_eq_true rfl⟩ hM (MW.xk hw k9) rfl rfl hM hl.1 (Nat.le_of_ble_eq_true rfl) ⟨Nat.le_of_ble_eq_true rfl, Nat.le_of_ble_eq_true rfl⟩ rfl dX5_night_98 ?_
            refine W.eq (g2 := F0 m 101 ls [.int (sGu (uU (uU (mS σ i) u9 3 (-1)) u9 4 0) u9 0), .int 0, .int (nI u9), .ref (g 0)]) rfl ?_
            rw [show (sGu (uU (uU (mS σ i) u9 3 (-1)) u9 4 0) u9 0 : Int32) = sGu (mS σ i) u9 0 from rfl]
            refine lv_iload_n hx hb dX5_night_101 rfl (lv_at hl 3 rfl) ?_
            refine lv_isub hx hb dX5_night_102 ?_
            refine lv_iload hx hb dX5_night_103 (lv_at hl 1 rfl) ?_
            refine lv_iadd hx hb dX5_night_105 ?_
            refine m_wV 3 [.int (nI u9), .int 0, .int (((sGu (mS σ i) u9 0) - (due (mS σ i) i (nI u9))) + (ltB (mS σ i) i u9))] [] hx hb hml hown hts hK (c_set l E A g M (uU (uU (mS σ i) u9 3 (-1)) u9 4 0) 0 hw u9 0 (by omega) (by omega) (((sGu (mS σ i) u9 0) - (due (mS σ i) i (nI u9))) + (ltB (mS σ i) i u9))) gX5_night_X5_set rfl rfl rfl (by decide +kernel) rfl ⟨Nat.le_of_ble_eq_true rfl, Nat.le_of_ble_eq_true rfl⟩ hM (MW.xk hw k9) rfl rfl hM hl.1 (Nat.le_of_ble_eq_true rfl) ⟨Nat.le_of_ble_eq_true rfl, Nat.le_of_ble_eq_true rfl⟩ rfl dX5_night_106 hS (fun _ _ h => h) (fun _ h => h) (fun H locs hQ hz hk hS => ?_)
            refine W.eq (g2 := F0 m 109 ls []) rfl ?_
            obtain ⟨M, hM, hw⟩ := hQ
            obtain ⟨f1, m1, hf1⟩ := MW.house hw
            obtain ⟨f2, m2, hf2⟩ := MW.joined hw
            obtain ⟨f3, m3, hf3⟩ := MW.spooks hw
            obtain ⟨f4, m4, hf4⟩ := MW.people hw
            obtain ⟨f5, m5, hf5⟩ := MW.numbers hw
            refine lv_aload_n hx hb dX5_night_109 rfl (lv_at hl 6 rfl) ?_
            refine lv_iload_n hx hb dX5_night_110 rfl (lv_at hl 4 rfl) ?_
            refine lv_iconst (v := 5) hx hb dX5_night_111 (by decide) ?_
            refine lv_aload_n hx hb dX5_night_112 rfl (lv_at hl 6 rfl) ?_
            refine lv_iload_n hx hb dX5_night_113 rfl (lv_at hl 4 rfl) ?_
            refine lv_iconst (v := 5) hx hb dX5_night_114 (by decide) ?_
            refine m_cV 2 [.int (nI u9), .int 5] [.int 5, .int (nI u9), .ref (g 0)] hx hb hml hown hts hK (c_pe l E A g M (uU (uU (uU (mS σ i) u9 3 (-1)) u9 4 0) u9 0 (((sGu (mS σ i) u9 0) - (due (mS σ i) i (nI u9))) + (ltB (mS σ i) i u9))) 0 hw u9 5 (by omega) (by omega)) gX5_night_X5_pe rfl rfl rfl (by decide +kernel) rfl ⟨Nat.le_of_ble_eq_true rfl, Nat.le_of_ble_eq_true rfl⟩ hM (MW.xk hw k9) rfl rfl hM hl.1 (Nat.le_of_ble_eq_true rfl) ⟨Nat.le_of_ble_eq_true rfl, Nat.le_of_ble_eq_true rfl⟩ rfl dX5_night_115 ?_
            refine W.eq (g2 := F0 m 118 ls [.int (sGu (uU (uU (uU (mS σ i) u9 3 (-1)) u9 4 0) u9 0 (((sGu (mS σ i) u9 0) - (due (mS σ i) i (nI u9))) + (ltB (mS σ i) i u9))) u9 5), .int 5, .int (nI u9), .ref (g 0)]) rfl ?_
            rw [show (sGu (uU (uU (uU (mS σ i) u9 3 (-1)) u9 4 0) u9 0 (((sGu (mS σ i) u9 0) - (due (mS σ i) i (nI u9))) + (ltB (mS σ i) i u9))) u9 5 : Int32) = sGu (mS σ i) u9 5 from rfl]
            refine lv_iconst (v := 1) hx hb dX5_night_118 (by decide) ?_
            refine lv_iadd hx hb dX5_night_119 ?_
            refine m_wV 3 [.int (nI u9), .int 5, .int ((sGu (mS σ i) u9 5) + 1)] [] hx hb hml hown hts hK (c_set l E A g M (uU (uU (uU (mS σ i) u9 3 (-1)) u9 4 0) u9 0 (((sGu (mS σ i) u9 0) - (due (mS σ i) i (nI u9))) + (ltB (mS σ i) i u9))) 0 hw u9 5 (by omega) (by omega) ((sGu (mS σ i) u9 5) + 1)) gX5_night_X5_set rfl rfl rfl (by decide +kernel) rfl ⟨Nat.le_of_ble_eq_true rfl, Nat.le_of_ble_eq_true rfl⟩ hM (MW.xk hw k9) rfl rfl hM hl.1 (Nat.le_of_ble_eq_true rfl) ⟨Nat.le_of_ble_eq_true rfl, Nat.le_of_ble_eq_true rfl⟩ rfl dX5_night_120 hS (fun _ _ h => h) (fun _ h => h) (fun H locs hQ hz hk hS => ?_)
            refine W.eq (g2 := F0 m 123 ls []) rfl ?_
            obtain ⟨M, hM, hw⟩ := hQ
            obtain ⟨f1, m1, hf1⟩ := MW.house hw
            obtain ⟨f2, m2, hf2⟩ := MW.joined hw
            obtain ⟨f3, m3, hf3⟩ := MW.spooks hw
            obtain ⟨f4, m4, hf4⟩ := MW.people hw
            obtain ⟨f5, m5, hf5⟩ := MW.numbers hw
            refine lv_iload hx hb dX5_night_123 (lv_at hl 2 rfl) ?_
            refine lv_if_eq (tgt := 144) hx hb dX5_night_125 (by decide) (fun c9 => absurd c9 (by rw [c54]; decide)) (fun c125 => ?_)
            have c125 := bI_t c125
            refine lv_aload_n hx hb dX5_night_128 rfl (lv_at hl 6 rfl) ?_
            refine lv_iload_n hx hb dX5_night_129 rfl (lv_at hl 4 rfl) ?_
            refine lv_bipush (v := 6) hx hb dX5_night_130 (by decide) ?_
            refine lv_aload_n hx hb dX5_night_132 rfl (lv_at hl 6 rfl) ?_
            refine lv_iload_n hx hb dX5_night_133 rfl (lv_at hl 4 rfl) ?_
            refine lv_bipush (v := 6) hx hb dX5_night_134 (by decide) ?_
            refine m_cV 2 [.int (nI u9), .int 6] [.int 6, .int (nI u9), .ref (g 0)] hx hb hml hown hts hK (c_pe l E A g M (uU (uU (uU (uU (mS σ i) u9 3 (-1)) u9 4 0) u9 0 (((sGu (mS σ i) u9 0) - (due (mS σ i) i (nI u9))) + (ltB (mS σ i) i u9))) u9 5 ((sGu (mS σ i) u9 5) + 1)) 0 hw u9 6 (by omega) (by omega)) gX5_night_X5_pe rfl rfl rfl (by decide +kernel) rfl ⟨Nat.le_of_ble_eq_true rfl, Nat.le_of_ble_eq_true rfl⟩ hM (MW.xk hw k9) rfl rfl hM hl.1 (Nat.le_of_ble_eq_true rfl) ⟨Nat.le_of_ble_eq_true rfl, Nat.le_of_ble_eq_true rfl⟩ rfl dX5_night_136 ?_
            refine W.eq (g2 := F0 m 139 ls [.int (sGu (uU (uU (uU (uU (mS σ i) u9 3 (-1)) u9 4 0) u9 0 (((sGu (mS σ i) u9 0) - (due (mS σ i) i (nI u9))) + (ltB (mS σ i) i u9))) u9 5 ((sGu (mS σ i) u9 5) + 1)) u9 6), .int 6, .int (nI u9), .ref (g 0)]) rfl ?_
            rw [show (sGu (uU (uU (uU (uU (mS σ i) u9 3 (-1)) u9 4 0) u9 0 (((sGu (mS σ i) u9 0) - (due (mS σ i) i (nI u9))) + (ltB (mS σ i) i u9))) u9 5 ((sGu (mS σ i) u9 5) + 1)) u9 6 : Int32) = sGu (mS σ i) u9 6 from rfl]
            refine lv_iconst (v := 1) hx hb dX5_night_139 (by decide) ?_
            refine lv_iadd hx hb dX5_night_140 ?_
            refine m_wV 3 [.int (nI u9), .int 6, .int ((sGu (mS σ i) u9 6) + 1)] [] hx hb hml hown hts hK (c_set l E A g M (uU (uU (uU (uU (mS σ i) u9 3 (-1)) u9 4 0) u9 0 (((sGu (mS σ i) u9 0) - (due (mS σ i) i (nI u9))) + (ltB (mS σ i) i u9))) u9 5 ((sGu (mS σ i) u9 5) + 1)) 0 hw u9 6 (by omega) (by omega) ((sGu (mS σ i) u9 6) + 1)) gX5_night_X5_set rfl rfl rfl (by decide +kernel) rfl ⟨Nat.le_of_ble_eq_true rfl, Nat.le_of_ble_eq_true rfl⟩ hM (MW.xk hw k9) rfl rfl hM hl.1 (Nat.le_of_ble_eq_true rfl) ⟨Nat.le_of_ble_eq_true rfl, Nat.le_of_ble_eq_true rfl⟩ rfl dX5_night_141 hS (fun _ _ h => h) (fun _ h => h) (fun H locs hQ hz hk hS => ?_)
            refine W.eq (g2 := F0 m 144 ls []) rfl ?_
            obtain ⟨M, hM, hw⟩ := hQ
            obtain ⟨f1, m1, hf1⟩ := MW.house hw
            obtain ⟨f2, m2, hf2⟩ := MW.joined hw
            obtain ⟨f3, m3, hf3⟩ := MW.spooks hw
            obtain ⟨f4, m4, hf4⟩ := MW.people hw
            obtain ⟨f5, m5, hf5⟩ := MW.numbers hw
            obtain ⟨M, hM, hw⟩ : ∃ M', mP E A g M' H ∧ MW E g M' (uU (uU (uU (uU (uU (mS σ i) u9 3 (-1)) u9 4 0) u9 0 ((sGu (mS σ i) u9 0) - (due (mS σ i) i (nI u9)) + (ltB (mS σ i) i u9))) u9 5 ((sGu (mS σ i) u9 5) + 1)) u9 6 (baN (sGu (mS σ i) u9 6) (sGu (mS σ i) u9 2) (hON (mS σ i) (nI i) (-1) 12))) 0 := ⟨_, hM, by rw [baN, if_pos c54]; exact hw⟩
            obtain ⟨f1, m1, hf1⟩ := MW.house hw
            obtain ⟨f2, m2, hf2⟩ := MW.joined hw
            obtain ⟨f3, m3, hf3⟩ := MW.spooks hw
            obtain ⟨f4, m4, hf4⟩ := MW.people hw
            obtain ⟨f5, m5, hf5⟩ := MW.numbers hw
            refine lv_aload_n hx hb dX5_night_144 rfl (lv_at hl 6 rfl) ?_
            refine lv_iload_n hx hb dX5_night_145 rfl (lv_at hl 4 rfl) ?_
            refine lv_iconst (v := 2) hx hb dX5_night_146 (by decide) ?_
            refine m_cV 2 [.int (nI u9), .int 2] [] hx hb hml hown hts hK (c_pe l E A g M (uU (uU (uU (uU (uU (mS σ i) u9 3 (-1)) u9 4 0) u9 0 ((sGu (mS σ i) u9 0) - (due (mS σ i) i (nI u9)) + (ltB (mS σ i) i u9))) u9 5 ((sGu (mS σ i) u9 5) + 1)) u9 6 (baN (sGu (mS σ i) u9 6) (sGu (mS σ i) u9 2) (hON (mS σ i) (nI i) (-1) 12))) 0 hw u9 2 (by omega) (by omega)) gX5_night_X5_pe rfl rfl rfl (by decide +kernel) rfl ⟨Nat.le_of_ble_eq_true rfl, Nat.le_of_ble_eq_true rfl⟩ hM (MW.xk hw k9) rfl rfl hM hl.1 (Nat.le_of_ble_eq_true rfl) ⟨Nat.le_of_ble_eq_true rfl, Nat.le_of_ble_eq_true rfl⟩ rfl dX5_night_147 ?_
            refine W.eq (g2 := F0 m 150 ls [.int (sGu (uU (uU (uU (uU (uU (mS σ i) u9 3 (-1)) u9 4 0) u9 0 ((sGu (mS σ i) u9 0) - (due (mS σ i) i (nI u9)) + (ltB (mS σ i) i u9))) u9 5 ((sGu (mS σ i) u9 5) + 1)) u9 6 (baN (sGu (mS σ i) u9 6) (sGu (mS σ i) u9 2) (hON (mS σ i) (nI i) (-1) 12))) u9 2)]) rfl ?_
            rw [show (sGu (uU (uU (uU (uU (uU (mS σ i) u9 3 (-1)) u9 4 0) u9 0 ((sGu (mS σ i) u9 0) - (due (mS σ i) i (nI u9)) + (ltB (mS σ i) i u9))) u9 5 ((sGu (mS σ i) u9 5) + 1)) u9 6 (baN (sGu (mS σ i) u9 6) (sGu (mS σ i) u9 2) (hON (mS σ i) (nI i) (-1) 12))) u9 2 : Int32) = sGu (mS σ i) u9 2 from rfl]
            refine lv_if_lt (tgt := 192) hx hb dX5_night_150 (by decide) (fun c150 => ?_) (fun c9 => absurd c77 c9)
            obtain ⟨M, hM, hw⟩ : ∃ M', mP E A g M' H ∧ MW E g M' (uU (uU (uU (uU (uU (uU (mS σ i) u9 3 (-1)) u9 4 0) u9 0 ((sGu (mS σ i) u9 0) - (due (mS σ i) i (nI u9)) + (ltB (mS σ i) i u9))) u9 5 ((sGu (mS σ i) u9 5) + 1)) u9 6 (baN (sGu (mS σ i) u9 6) (sGu (mS σ i) u9 2) (hON (mS σ i) (nI i) (-1) 12))) u9 2 (nvN (sGu (mS σ i) u9 2) (hON (mS σ i) (nI i) (-1) 12))) 0 := ⟨_, hM, hw.same (show nvN (sGu (mS σ i) u9 2) (hON (mS σ i) (nI i) (-1) 12) = (sGu (mS σ i) u9 2) from by rw [nvN, frB_2 c150, if_neg (by decide), if_pos c150])⟩
            obtain ⟨f1, m1, hf1⟩ := MW.house hw
            obtain ⟨f2, m2, hf2⟩ := MW.joined hw
            obtain ⟨f3, m3, hf3⟩ := MW.spooks hw
            obtain ⟨f4, m4, hf4⟩ := MW.people hw
            obtain ⟨f5, m5, hf5⟩ := MW.numbers hw
            refine lv_iload hx hb dX5_night_192 (lv_at hl 0 rfl) ?_
            refine lv_if_eq (tgt := 213) hx hb dX5_night_194 (by decide) (fun c194 => ?_) (fun c9 => absurd (by rw [frB_2 c150]; rfl) c9)
            have c194 := bI_f c194
            obtain ⟨M, hM, hw⟩ : ∃ M', mP E A g M' H ∧ MW E g M' (uR (uU (uU (uU (uU (uU (uU (mS σ i) u9 3 (-1)) u9 4 0) u9 0 ((sGu (mS σ i) u9 0) - (due (mS σ i) i (nI u9)) + (ltB (mS σ i) i u9))) u9 5 ((sGu (mS σ i) u9 5) + 1)) u9 6 (baN (sGu (mS σ i) u9 6) (sGu (mS σ i) u9 2) (hON (mS σ i) (nI i) (-1) 12))) u9 2 (nvN (sGu (mS σ i) u9 2) (hON (mS σ i) (nI i) (-1) 12))) i 1 (rcN (sRm (mS σ i) i 1) (frB (sGu (mS σ i) u9 2) (hON (mS σ i) (nI i) (-1) 12)))) 0 := ⟨_, hM, hw.sameR (show rcN (sRm (mS σ i) i 1) (frB (sGu (mS σ i) u9 2) (hON (mS σ i) (nI i) (-1) 12)) = (sRm (mS σ i) i 1) from by rw [c194]; rfl)⟩
            obtain ⟨f1, m1, hf1⟩ := MW.house hw
            obtain ⟨f2, m2, hf2⟩ := MW.joined hw
            obtain ⟨f3, m3, hf3⟩ := MW.spooks hw
            obtain ⟨f4, m4, hf4⟩ := MW.people hw
            obtain ⟨f5, m5, hf5⟩ := MW.numbers hw
            refine lv_aload_n hx hb dX5_night_213 rfl (lv_at hl 6 rfl) ?_
            refine lv_iload_n hx hb dX5_night_214 rfl (lv_at hl 5 rfl) ?_
            refine lv_iconst (v := 3) hx hb dX5_night_215 (by decide) ?_
            refine lv_iconst (v := 1) hx hb dX5_night_216 (by decide) ?_
            refine m_wV 3 [.int (nI i), .int 3, .int 1] [] hx hb hml hown hts hK (c_addRo l E A g M (uR (uU (uU (uU (uU (uU (uU (mS σ i) u9 3 (-1)) u9 4 0) u9 0 ((sGu (mS σ i) u9 0) - (due (mS σ i) i (nI u9)) + (ltB (mS σ i) i u9))) u9 5 ((sGu (mS σ i) u9 5) + 1)) u9 6 (baN (sGu (mS σ i) u9 6) (sGu (mS σ i) u9 2) (hON (mS σ i) (nI i) (-1) 12))) u9 2 (nvN (sGu (mS σ i) u9 2) (hON (mS σ i) (nI i) (-1) 12))) i 1 (rcN (sRm (mS σ i) i 1) (frB (sGu (mS σ i) u9 2) (hON (mS σ i) (nI i) (-1) 12)))) 0 hw i 3 (by omega) (by omega) 1) gX5_night_X5_addRo rfl rfl rfl (by decide +kernel) rfl ⟨Nat.le_of_ble_eq_true rfl, Nat.le_of_ble_eq_true rfl⟩ hM (MW.xk hw k9) rfl rfl hM hl.1 (Nat.le_of_ble_eq_true rfl) ⟨Nat.le_of_ble_eq_true rfl, Nat.le_of_ble_eq_true rfl⟩ rfl dX5_night_217 hS (fun _ _ h => h) (fun _ h => h) (fun H locs hQ hz hk hS => ?_)
            refine W.eq (g2 := F0 m 220 ls []) rfl ?_
            obtain ⟨M, hM, hw⟩ := hQ
            have hw : MW E g M (uR (uR (uU (uU (uU (uU (uU (uU (mS σ i) u9 3 (-1)) u9 4 0) u9 0 ((sGu (mS σ i) u9 0) - (due (mS σ i) i (nI u9)) + (ltB (mS σ i) i u9))) u9 5 ((sGu (mS σ i) u9 5) + 1)) u9 6 (baN (sGu (mS σ i) u9 6) (sGu (mS σ i) u9 2) (hON (mS σ i) (nI i) (-1) 12))) u9 2 (nvN (sGu (mS σ i) u9 2) (hON (mS σ i) (nI i) (-1) 12))) i 1 (rcN (sRm (mS σ i) i 1) (frB (sGu (mS σ i) u9 2) (hON (mS σ i) (nI i) (-1) 12)))) i 3 (sRm (mS σ i) i 3 + 1)) 0 := hw
            obtain ⟨f1, m1, hf1⟩ := MW.house hw
            obtain ⟨f2, m2, hf2⟩ := MW.joined hw
            obtain ⟨f3, m3, hf3⟩ := MW.spooks hw
            obtain ⟨f4, m4, hf4⟩ := MW.people hw
            obtain ⟨f5, m5, hf5⟩ := MW.numbers hw
            refine lv_aload_n hx hb dX5_night_220 rfl (lv_at hl 6 rfl) ?_
            refine lv_iload_n hx hb dX5_night_221 rfl (lv_at hl 5 rfl) ?_
            refine lv_iconst (v := 4) hx hb dX5_night_222 (by decide) ?_
            refine lv_iload_n hx hb dX5_night_223 rfl (lv_at hl 3 rfl) ?_
            refine lv_iload hx hb dX5_night_224 (lv_at hl 1 rfl) ?_
            refine lv_isub hx hb dX5_night_226 ?_
            refine m_wV 3 [.int (nI i), .int 4, .int ((due (mS σ i) i (nI u9)) - (ltB (mS σ i) i u9))] [] hx hb hml hown hts hK (c_addRo l E A g M (uR (uR (uU (uU (uU (uU (uU (uU (mS σ i) u9 3 (-1)) u9 4 0) u9 0 ((sGu (mS σ i) u9 0) - (due (mS σ i) i (nI u9)) + (ltB (mS σ i) i u9))) u9 5 ((sGu (mS σ i) u9 5) + 1)) u9 6 (baN (sGu (mS σ i) u9 6) (sGu (mS σ i) u9 2) (hON (mS σ i) (nI i) (-1) 12))) u9 2 (nvN (sGu (mS σ i) u9 2) (hON (mS σ i) (nI i) (-1) 12))) i 1 (rcN (sRm (mS σ i) i 1) (frB (sGu (mS σ i) u9 2) (hON (mS σ i) (nI i) (-1) 12)))) i 3 (sRm (mS σ i) i 3 + 1)) 0 hw i 4 (by omega) (by omega) ((due (mS σ i) i (nI u9)) - (ltB (mS σ i) i u9))) gX5_night_X5_addRo rfl rfl rfl (by decide +kernel) rfl ⟨Nat.le_of_ble_eq_true rfl, Nat.le_of_ble_eq_true rfl⟩ hM (MW.xk hw k9) rfl rfl hM hl.1 (Nat.le_of_ble_eq_true rfl) ⟨Nat.le_of_ble_eq_true rfl, Nat.le_of_ble_eq_true rfl⟩ rfl dX5_night_227 hS (fun _ _ h => h) (fun _ h => h) (fun H locs hQ hz hk hS => ?_)
            refine W.eq (g2 := F0 m 230 ls []) rfl ?_
            obtain ⟨M, hM, hw⟩ := hQ
            have hw : MW E g M (uR (uR (uR (uU (uU (uU (uU (uU (uU (mS σ i) u9 3 (-1)) u9 4 0) u9 0 ((sGu (mS σ i) u9 0) - (due (mS σ i) i (nI u9)) + (ltB (mS σ i) i u9))) u9 5 ((sGu (mS σ i) u9 5) + 1)) u9 6 (baN (sGu (mS σ i) u9 6) (sGu (mS σ i) u9 2) (hON (mS σ i) (nI i) (-1) 12))) u9 2 (nvN (sGu (mS σ i) u9 2) (hON (mS σ i) (nI i) (-1) 12))) i 1 (rcN (sRm (mS σ i) i 1) (frB (sGu (mS σ i) u9 2) (hON (mS σ i) (nI i) (-1) 12)))) i 3 (sRm (mS σ i) i 3 + 1)) i 4 (sRm (mS σ i) i 4 + ((due (mS σ i) i (nI u9)) - (ltB (mS σ i) i u9)))) 0 := hw
            obtain ⟨f1, m1, hf1⟩ := MW.house hw
            obtain ⟨f2, m2, hf2⟩ := MW.joined hw
            obtain ⟨f3, m3, hf3⟩ := MW.spooks hw
            obtain ⟨f4, m4, hf4⟩ := MW.people hw
            obtain ⟨f5, m5, hf5⟩ := MW.numbers hw
            refine lv_aload_n hx hb dX5_night_230 rfl (lv_at hl 6 rfl) ?_
            refine m_get hx hb hts in_X5_night_X5 hown hK hM (MW.xk hw k9) rfl 9 (by decide) (by decide +kernel) rfl dX5_night_231 ?_
            refine lv_iconst (v := 1) hx hb dX5_night_234 (by decide) ?_
            refine lv_dup2_11 hx hb dX5_night_235 rfl rfl ?_
            refine m_iald (v := sH (mS σ i)) hx hb hK hM m5 (ix_ok (n := 1) ⟨by decide, by decide⟩) (hf5.2.1) dX5_night_236 ?_
            refine lv_iload_n hx hb dX5_night_237 rfl (lv_at hl 3 rfl) ?_
            refine lv_iload hx hb dX5_night_238 (lv_at hl 1 rfl) ?_
            refine lv_isub hx hb dX5_night_240 ?_
            refine lv_iadd hx hb dX5_night_241 ?_
            refine m_iast hx hb hK hM hS m5 (ix_ok (n := 1) ⟨by decide, by decide⟩) dX5_night_242 (fun H locs hM hz hS => ?_)
            obtain ⟨M, hM, hw⟩ : ∃ M', mP E A g M' H ∧ MW E g M' (uN (uR (uR (uR (uU (uU (uU (uU (uU (uU (mS σ i) u9 3 (-1)) u9 4 0) u9 0 ((sGu (mS σ i) u9 0) - (due (mS σ i) i (nI u9)) + (ltB (mS σ i) i u9))) u9 5 ((sGu (mS σ i) u9 5) + 1)) u9 6 (baN (sGu (mS σ i) u9 6) (sGu (mS σ i) u9 2) (hON (mS σ i) (nI i) (-1) 12))) u9 2 (nvN (sGu (mS σ i) u9 2) (hON (mS σ i) (nI i) (-1) 12))) i 1 (rcN (sRm (mS σ i) i 1) (frB (sGu (mS σ i) u9 2) (hON (mS σ i) (nI i) (-1) 12)))) i 3 (sRm (mS σ i) i 3 + 1)) i 4 (sRm (mS σ i) i 4 + ((due (mS σ i) i (nI u9)) - (ltB (mS σ i) i u9)))) (sN (mS σ i)) (sH (mS σ i) + ((due (mS σ i) i (nI u9)) - (ltB (mS σ i) i u9))) (sB (mS σ i))) 0 := ⟨_, hM, MW.putN (n := sN (mS σ i)) (h := sH (mS σ i) + ((due (mS σ i) i (nI u9)) - (ltB (mS σ i) i u9))) (b := sB (mS σ i)) hw ((pk_un (by decide)).trans hf5.1) pk_us ((pk_un (by decide)).trans hf5.2.2)⟩
            obtain ⟨f1, m1, hf1⟩ := MW.house hw
            obtain ⟨f2, m2, hf2⟩ := MW.joined hw
            obtain ⟨f3, m3, hf3⟩ := MW.spooks hw
            obtain ⟨f4, m4, hf4⟩ := MW.people hw
            obtain ⟨f5, m5, hf5⟩ := MW.numbers hw
            refine lv_aload_n hx hb dX5_night_243 rfl (lv_at hl 6 rfl) ?_
            refine m_get hx hb hts in_X5_night_X5 hown hK hM (MW.xk hw k9) rfl 9 (by decide) (by decide +kernel) rfl dX5_night_244 ?_
            refine lv_iconst (v := 2) hx hb dX5_night_247 (by decide) ?_
            refine lv_dup2_11 hx hb dX5_night_248 rfl rfl ?_
            refine m_iald (v := sB (mS σ i)) hx hb hK hM m5 (ix_ok (n := 2) ⟨by decide, by decide⟩) (hf5.2.2) dX5_night_249 ?_
            refine lv_iload hx hb dX5_night_250 (lv_at hl 1 rfl) ?_
            refine lv_iadd hx hb dX5_night_252 ?_
            refine m_iast hx hb hK hM hS m5 (ix_ok (n := 2) ⟨by decide, by decide⟩) dX5_night_253 (fun H locs hM hz hS => ?_)
            obtain ⟨M, hM, hw⟩ : ∃ M', mP E A g M' H ∧ MW E g M' (uN (uR (uR (uR (uU (uU (uU (uU (uU (uU (mS σ i) u9 3 (-1)) u9 4 0) u9 0 ((sGu (mS σ i) u9 0) - (due (mS σ i) i (nI u9)) + (ltB (mS σ i) i u9))) u9 5 ((sGu (mS σ i) u9 5) + 1)) u9 6 (baN (sGu (mS σ i) u9 6) (sGu (mS σ i) u9 2) (hON (mS σ i) (nI i) (-1) 12))) u9 2 (nvN (sGu (mS σ i) u9 2) (hON (mS σ i) (nI i) (-1) 12))) i 1 (rcN (sRm (mS σ i) i 1) (frB (sGu (mS σ i) u9 2) (hON (mS σ i) (nI i) (-1) 12)))) i 3 (sRm (mS σ i) i 3 + 1)) i 4 (sRm (mS σ i) i 4 + ((due (mS σ i) i (nI u9)) - (ltB (mS σ i) i u9)))) (sN (mS σ i)) (sH (mS σ i) + ((due (mS σ i) i (nI u9)) - (ltB (mS σ i) i u9))) (sB (mS σ i) + (ltB (mS σ i) i u9))) 0 := ⟨_, hM, MW.putN (σ := uN (uR (uR (uR (uU (uU (uU (uU (uU (uU (mS σ i) u9 3 (-1)) u9 4 0) u9 0 ((sGu (mS σ i) u9 0) - (due (mS σ i) i (nI u9)) + (ltB (mS σ i) i u9))) u9 5 ((sGu (mS σ i) u9 5) + 1)) u9 6 (baN (sGu (mS σ i) u9 6) (sGu (mS σ i) u9 2) (hON (mS σ i) (nI i) (-1) 12))) u9 2 (nvN (sGu (mS σ i) u9 2) (hON (mS σ i) (nI i) (-1) 12))) i 1 (rcN (sRm (mS σ i) i 1) (frB (sGu (mS σ i) u9 2) (hON (mS σ i) (nI i) (-1) 12)))) i 3 (sRm (mS σ i) i 3 + 1)) i 4 (sRm (mS σ i) i 4 + ((due (mS σ i) i (nI u9)) - (ltB (mS σ i) i u9)))) (sN (mS σ i)) (sH (mS σ i) + ((due (mS σ i) i (nI u9)) - (ltB (mS σ i) i u9))) (sB (mS σ i))) (n := sN (mS σ i)) (h := sH (mS σ i) + ((due (mS σ i) i (nI u9)) - (ltB (mS σ i) i u9))) (b := sB (mS σ i) + (ltB (mS σ i) i u9)) hw ((pk_un (by decide)).trans hf5.1) ((pk_un (by decide)).trans hf5.2.1) pk_us⟩
            obtain ⟨f1, m1, hf1⟩ := MW.house hw
            obtain ⟨f2, m2, hf2⟩ := MW.joined hw
            obtain ⟨f3, m3, hf3⟩ := MW.spooks hw
            obtain ⟨f4, m4, hf4⟩ := MW.people hw
            obtain ⟨f5, m5, hf5⟩ := MW.numbers hw
            refine lv_iinc (v := nI (i + 1)) (lv' := [(1, .int (nI (i + 1))), (6, .int (bI (frB (sGu (mS σ i) u9 2) (hON (mS σ i) (nI i) (-1) 12)))), (5, .int (ltB (mS σ i) i u9)), (4, .int (bI (upB (sGu (mS σ i) u9 2) (hON (mS σ i) (nI i) (-1) 12)))), (3, .int (due (mS σ i) i (nI u9))), (2, .int (nI u9)), (0, .ref (g 0))]) hx hb dX5_night_254 hl (k := 5) rfl (m_inc _) (by decide) rfl (fun ls hl => ?_)
            refine lv_goto (tgt := 7) hx hb dX5_night_257 (by decide) ?_
            exact ih7 (i + 1) (by omega) _ _ _ ⟨hM, by rw [mS, ← mlF_eq (by omega) hw9]; exact hw⟩ hS ls (lv_sub hl [0, 6] rfl)
          · refine lv_iconst (v := 1) hx hb dX5_night_80 (by decide) ?_
            refine lv_goto (tgt := 85) hx hb dX5_night_81 (by decide) ?_
            refine W.eq (g2 := F0 m 85 ls [.int (bI (frB (sGu (mS σ i) u9 2) (hON (mS σ i) (nI i) (-1) 12)))]) (by rw [frB_1 c54 c77]; rfl) ?_
            refine lv_istore (lv' := [(6, .int (bI (frB (sGu (mS σ i) u9 2) (hON (mS σ i) (nI i) (-1) 12)))), (5, .int (ltB (mS σ i) i u9)), (4, .int (bI (upB (sGu (mS σ i) u9 2) (hON (mS σ i) (nI i) (-1) 12)))), (3, .int (due (mS σ i) i (nI u9))), (2, .int (nI u9)), (1, .int (nI i)), (0, .ref (g 0))]) hx hb dX5_night_85 hl (by decide) rfl (fun ls hl => ?_)
            refine lv_aload_n hx hb dX5_night_87 rfl (lv_at hl 6 rfl) ?_
            refine lv_iload_n hx hb dX5_night_88 rfl (lv_at hl 4 rfl) ?_
            refine m_wV 1 [.int (nI u9)] [] hx hb hml hown hts hK (c_withdraw l E A g M (mS σ i) 0 hw u9 (by omega)) gX5_night_X5_withdraw rfl rfl rfl (by decide +kernel) rfl ⟨Nat.le_of_ble_eq_true rfl, Nat.le_of_ble_eq_true rfl⟩ hM (MW.xk hw k9) rfl rfl hM hl.1 (Nat.le_of_ble_eq_true rfl) ⟨Nat.le_of_ble_eq_true rfl, Nat.le_of_ble_eq_true rfl⟩ rfl dX5_night_89 hS (fun _ _ h => h) (fun _ h => h) (fun H locs hQ hz hk hS => ?_)
            refine W.eq (g2 := F0 m 92 ls []) rfl ?_
            obtain ⟨M, hM, hw⟩ := hQ
            obtain ⟨f1, m1, hf1⟩ := MW.house hw
            obtain ⟨f2, m2, hf2⟩ := MW.joined hw
            obtain ⟨f3, m3, hf3⟩ := MW.spooks hw
            obtain ⟨f4, m4, hf4⟩ := MW.people hw
            obtain ⟨f5, m5, hf5⟩ := MW.numbers hw
            refine lv_aload_n hx hb dX5_night_92 rfl (lv_at hl 6 rfl) ?_
            refine lv_iload_n hx hb dX5_night_93 rfl (lv_at hl 4 rfl) ?_
            refine lv_iconst (v := 0) hx hb dX5_night_94 (by decide) ?_
            refine lv_aload_n hx hb dX5_night_95 rfl (lv_at hl 6 rfl) ?_
            refine lv_iload_n hx hb dX5_night_96 rfl (lv_at hl 4 rfl) ?_
            refine lv_iconst (v := 0) hx hb dX5_night_97 (by decide) ?_
            refine m_cV 2 [.int (nI u9), .int 0] [.int 0, .int (nI u9), .ref (g 0)] hx hb hml hown hts hK (c_pe l E A g M (uU (uU (mS σ i) u9 3 (-1)) u9 4 0) 0 hw u9 0 (by omega) (by omega)) gX5_night_X5_pe rfl rfl rfl (by decide +kernel) rfl ⟨Nat.le_of_ble_eq_true rfl, Nat.le_of_ble_eq_true rfl⟩ hM (MW.xk hw k9) rfl rfl hM hl.1 (Nat.le_of_ble_eq_true rfl) ⟨Nat.le_of_ble_eq_true rfl, Nat.le_of_ble_eq_true rfl⟩ rfl dX5_night_98 ?_
            refine W.eq (g2 := F0 m 101 ls [.int (sGu (uU (uU (mS σ i) u9 3 (-1)) u9 4 0) u9 0), .int 0, .int (nI u9), .ref (g 0)]) rfl ?_
            rw [show (sGu (uU (uU (mS σ i) u9 3 (-1)) u9 4 0) u9 0 : Int32) = sGu (mS σ i) u9 0 from rfl]
            refine lv_iload_n hx hb dX5_night_101 rfl (lv_at hl 3 rfl) ?_
            refine lv_isub hx hb dX5_night_102 ?_
            refine lv_iload hx hb dX5_night_103 (lv_at hl 1 rfl) ?_
            refine lv_iadd hx hb dX5_night_105 ?_
            refine m_wV 3 [.int (nI u9), .int 0, .int (((sGu (mS σ i) u9 0) - (due (mS σ i) i (nI u9))) + (ltB (mS σ i) i u9))] [] hx hb hml hown hts hK (c_set l E A g M (uU (uU (mS σ i) u9 3 (-1)) u9 4 0) 0 hw u9 0 (by omega) (by omega) (((sGu (mS σ i) u9 0) - (due (mS σ i) i (nI u9))) + (ltB (mS σ i) i u9))) gX5_night_X5_set rfl rfl rfl (by decide +kernel) rfl ⟨Nat.le_of_ble_eq_true rfl, Nat.le_of_ble_eq_true rfl⟩ hM (MW.xk hw k9) rfl rfl hM hl.1 (Nat.le_of_ble_eq_true rfl) ⟨Nat.le_of_ble_eq_true rfl, Nat.le_of_ble_eq_true rfl⟩ rfl dX5_night_106 hS (fun _ _ h => h) (fun _ h => h) (fun H locs hQ hz hk hS => ?_)
            refine W.eq (g2 := F0 m 109 ls []) rfl ?_
            obtain ⟨M, hM, hw⟩ := hQ
            obtain ⟨f1, m1, hf1⟩ := MW.house hw
            obtain ⟨f2, m2, hf2⟩ := MW.joined hw
            obtain ⟨f3, m3, hf3⟩ := MW.spooks hw
            obtain ⟨f4, m4, hf4⟩ := MW.people hw
            obtain ⟨f5, m5, hf5⟩ := MW.numbers hw
            refine lv_aload_n hx hb dX5_night_109 rfl (lv_at hl 6 rfl) ?_
            refine lv_iload_n hx hb dX5_night_110 rfl (lv_at hl 4 rfl) ?_
            refine lv_iconst (v := 5) hx hb dX5_night_111 (by decide) ?_
            refine lv_aload_n hx hb dX5_night_112 rfl (lv_at hl 6 rfl) ?_
            refine lv_iload_n hx hb dX5_night_113 rfl (lv_at hl 4 rfl) ?_
            refine lv_iconst (v := 5) hx hb dX5_night_114 (by decide) ?_
            refine m_cV 2 [.int (nI u9), .int 5] [.int 5, .int (nI u9), .ref (g 0)] hx hb hml hown hts hK (c_pe l E A g M (uU (uU (uU (mS σ i) u9 3 (-1)) u9 4 0) u9 0 (((sGu (mS σ i) u9 0) - (due (mS σ i) i (nI u9))) + (ltB (mS σ i) i u9))) 0 hw u9 5 (by omega) (by omega)) gX5_night_X5_pe rfl rfl rfl (by decide +kernel) rfl ⟨Nat.le_of_ble_eq_true rfl, Nat.le_of_ble_eq_true rfl⟩ hM (MW.xk hw k9) rfl rfl hM hl.1 (Nat.le_of_ble_eq_true rfl) ⟨Nat.le_of_ble_eq_true rfl, Nat.le_of_ble_eq_true rfl⟩ rfl dX5_night_115 ?_
            refine W.eq (g2 := F0 m 118 ls [.int (sGu (uU (uU (uU (mS σ i) u9 3 (-1)) u9 4 0) u9 0 (((sGu (mS σ i) u9 0) - (due (mS σ i) i (nI u9))) + (ltB (mS σ i) i u9))) u9 5), .int 5, .int (nI u9), .ref (g 0)]) rfl ?_
            rw [show (sGu (uU (uU (uU (mS σ i) u9 3 (-1)) u9 4 0) u9 0 (((sGu (mS σ i) u9 0) - (due (mS σ i) i (nI u9))) + (ltB (mS σ i) i u9))) u9 5 : Int32) = sGu (mS σ i) u9 5 from rfl]
            refine lv_iconst (v := 1) hx hb dX5_night_118 (by decide) ?_
            refine lv_iadd hx hb dX5_night_119 ?_
            refine m_wV 3 [.int (nI u9), .int 5, .int ((sGu (mS σ i) u9 5) + 1)] [] hx hb hml hown hts hK (c_set l E A g M (uU (uU (uU (mS σ i) u9 3 (-1)) u9 4 0) u9 0 (((sGu (mS σ i) u9 0) - (due (mS σ i) i (nI u9))) + (ltB (mS σ i) i u9))) 0 hw u9 5 (by omega) (by omega) ((sGu (mS σ i) u9 5) + 1)) gX5_night_X5_set rfl rfl rfl (by decide +kernel) rfl ⟨Nat.le_of_ble_eq_true rfl, Nat.le_of_ble_eq_true rfl⟩ hM (MW.xk hw k9) rfl rfl hM hl.1 (Nat.le_of_ble_eq_true rfl) ⟨Nat.le_of_ble_eq_true rfl, Nat.le_of_ble_eq_true rfl⟩ rfl dX5_night_120 hS (fun _ _ h => h) (fun _ h => h) (fun H locs hQ hz hk hS => ?_)
            refine W.eq (g2 := F0 m 123 ls []) rfl ?_
            obtain ⟨M, hM, hw⟩ := hQ
            obtain ⟨f1, m1, hf1⟩ := MW.house hw
            obtain ⟨f2, m2, hf2⟩ := MW.joined hw
            obtain ⟨f3, m3, hf3⟩ := MW.spooks hw
            obtain ⟨f4, m4, hf4⟩ := MW.people hw
            obtain ⟨f5, m5, hf5⟩ := MW.numbers hw
            refine lv_iload hx hb dX5_night_123 (lv_at hl 2 rfl) ?_
            refine lv_if_eq (tgt := 144) hx hb dX5_night_125 (by decide) (fun c9 => absurd c9 (by rw [c54]; decide)) (fun c125 => ?_)
            have c125 := bI_t c125
            refine lv_aload_n hx hb dX5_night_128 rfl (lv_at hl 6 rfl) ?_
            refine lv_iload_n hx hb dX5_night_129 rfl (lv_at hl 4 rfl) ?_
            refine lv_bipush (v := 6) hx hb dX5_night_130 (by decide) ?_
            refine lv_aload_n hx hb dX5_night_132 rfl (lv_at hl 6 rfl) ?_
            refine lv_iload_n hx hb dX5_night_133 rfl (lv_at hl 4 rfl) ?_
            refine lv_bipush (v := 6) hx hb dX5_night_134 (by decide) ?_
            refine m_cV 2 [.int (nI u9), .int 6] [.int 6, .int (nI u9), .ref (g 0)] hx hb hml hown hts hK (c_pe l E A g M (uU (uU (uU (uU (mS σ i) u9 3 (-1)) u9 4 0) u9 0 (((sGu (mS σ i) u9 0) - (due (mS σ i) i (nI u9))) + (ltB (mS σ i) i u9))) u9 5 ((sGu (mS σ i) u9 5) + 1)) 0 hw u9 6 (by omega) (by omega)) gX5_night_X5_pe rfl rfl rfl (by decide +kernel) rfl ⟨Nat.le_of_ble_eq_true rfl, Nat.le_of_ble_eq_true rfl⟩ hM (MW.xk hw k9) rfl rfl hM hl.1 (Nat.le_of_ble_eq_true rfl) ⟨Nat.le_of_ble_eq_true rfl, Nat.le_of_ble_eq_true rfl⟩ rfl dX5_night_136 ?_
            refine W.eq (g2 := F0 m 139 ls [.int (sGu (uU (uU (uU (uU (mS σ i) u9 3 (-1)) u9 4 0) u9 0 (((sGu (mS σ i) u9 0) - (due (mS σ i) i (nI u9))) + (ltB (mS σ i) i u9))) u9 5 ((sGu (mS σ i) u9 5) + 1)) u9 6), .int 6, .int (nI u9), .ref (g 0)]) rfl ?_
            rw [show (sGu (uU (uU (uU (uU (mS σ i) u9 3 (-1)) u9 4 0) u9 0 (((sGu (mS σ i) u9 0) - (due (mS σ i) i (nI u9))) + (ltB (mS σ i) i u9))) u9 5 ((sGu (mS σ i) u9 5) + 1)) u9 6 : Int32) = sGu (mS σ i) u9 6 from rfl]
            refine lv_iconst (v := 1) hx hb dX5_night_139 (by decide) ?_
            refine lv_iadd hx hb dX5_night_140 ?_
            refine m_wV 3 [.int (nI u9), .int 6, .int ((sGu (mS σ i) u9 6) + 1)] [] hx hb hml hown hts hK (c_set l E A g M (uU (uU (uU (uU (mS σ i) u9 3 (-1)) u9 4 0) u9 0 (((sGu (mS σ i) u9 0) - (due (mS σ i) i (nI u9))) + (ltB (mS σ i) i u9))) u9 5 ((sGu (mS σ i) u9 5) + 1)) 0 hw u9 6 (by omega) (by omega) ((sGu (mS σ i) u9 6) + 1)) gX5_night_X5_set rfl rfl rfl (by decide +kernel) rfl ⟨Nat.le_of_ble_eq_true rfl, Nat.le_of_ble_eq_true rfl⟩ hM (MW.xk hw k9) rfl rfl hM hl.1 (Nat.le_of_ble_eq_true rfl) ⟨Nat.le_of_ble_eq_true rfl, Nat.le_of_ble_eq_true rfl⟩ rfl dX5_night_141 hS (fun _ _ h => h) (fun _ h => h) (fun H locs hQ hz hk hS => ?_)
            refine W.eq (g2 := F0 m 144 ls []) rfl ?_
            obtain ⟨M, hM, hw⟩ := hQ
            obtain ⟨f1, m1, hf1⟩ := MW.house hw
            obtain ⟨f2, m2, hf2⟩ := MW.joined hw
            obtain ⟨f3, m3, hf3⟩ := MW.spooks hw
            obtain ⟨f4, m4, hf4⟩ := MW.people hw
            obtain ⟨f5, m5, hf5⟩ := MW.numbers hw
            obtain ⟨M, hM, hw⟩ : ∃ M', mP E A g M' H ∧ MW E g M' (uU (uU (uU (uU (uU (mS σ i) u9 3 (-1)) u9 4 0) u9 0 ((sGu (mS σ i) u9 0) - (due (mS σ i) i (nI u9)) + (ltB (mS σ i) i u9))) u9 5 ((sGu (mS σ i) u9 5) + 1)) u9 6 (baN (sGu (mS σ i) u9 6) (sGu (mS σ i) u9 2) (hON (mS σ i) (nI i) (-1) 12))) 0 := ⟨_, hM, by rw [baN, if_pos c54]; exact hw⟩
            obtain ⟨f1, m1, hf1⟩ := MW.house hw
            obtain ⟨f2, m2, hf2⟩ := MW.joined hw
            obtain ⟨f3, m3, hf3⟩ := MW.spooks hw
            obtain ⟨f4, m4, hf4⟩ := MW.people hw
            obtain ⟨f5, m5, hf5⟩ := MW.numbers hw
            refine lv_aload_n hx hb dX5_night_144 rfl (lv_at hl 6 rfl) ?_
            refine lv_iload_n hx hb dX5_night_145 rfl (lv_at hl 4 rfl) ?_
            refine lv_iconst (v := 2) hx hb dX5_night_146 (by decide) ?_
            refine m_cV 2 [.int (nI u9), .int 2] [] hx hb hml hown hts hK (c_pe l E A g M (uU (uU (uU (uU (uU (mS σ i) u9 3 (-1)) u9 4 0) u9 0 ((sGu (mS σ i) u9 0) - (due (mS σ i) i (nI u9)) + (ltB (mS σ i) i u9))) u9 5 ((sGu (mS σ i) u9 5) + 1)) u9 6 (baN (sGu (mS σ i) u9 6) (sGu (mS σ i) u9 2) (hON (mS σ i) (nI i) (-1) 12))) 0 hw u9 2 (by omega) (by omega)) gX5_night_X5_pe rfl rfl rfl (by decide +kernel) rfl ⟨Nat.le_of_ble_eq_true rfl, Nat.le_of_ble_eq_true rfl⟩ hM (MW.xk hw k9) rfl rfl hM hl.1 (Nat.le_of_ble_eq_true rfl) ⟨Nat.le_of_ble_eq_true rfl, Nat.le_of_ble_eq_true rfl⟩ rfl dX5_night_147 ?_
            refine W.eq (g2 := F0 m 150 ls [.int (sGu (uU (uU (uU (uU (uU (mS σ i) u9 3 (-1)) u9 4 0) u9 0 ((sGu (mS σ i) u9 0) - (due (mS σ i) i (nI u9)) + (ltB (mS σ i) i u9))) u9 5 ((sGu (mS σ i) u9 5) + 1)) u9 6 (baN (sGu (mS σ i) u9 6) (sGu (mS σ i) u9 2) (hON (mS σ i) (nI i) (-1) 12))) u9 2)]) rfl ?_
            rw [show (sGu (uU (uU (uU (uU (uU (mS σ i) u9 3 (-1)) u9 4 0) u9 0 ((sGu (mS σ i) u9 0) - (due (mS σ i) i (nI u9)) + (ltB (mS σ i) i u9))) u9 5 ((sGu (mS σ i) u9 5) + 1)) u9 6 (baN (sGu (mS σ i) u9 6) (sGu (mS σ i) u9 2) (hON (mS σ i) (nI i) (-1) 12))) u9 2 : Int32) = sGu (mS σ i) u9 2 from rfl]
            refine lv_if_lt (tgt := 192) hx hb dX5_night_150 (by decide) (fun c9 => absurd c9 c77) (fun c150 => ?_)
            refine lv_aload_n hx hb dX5_night_153 rfl (lv_at hl 6 rfl) ?_
            refine lv_iload_n hx hb dX5_night_154 rfl (lv_at hl 4 rfl) ?_
            refine lv_iconst (v := 2) hx hb dX5_night_155 (by decide) ?_
            refine lv_iload hx hb dX5_night_156 (lv_at hl 0 rfl) ?_
            refine lv_if_eq (tgt := 176) hx hb dX5_night_158 (by decide) (fun c9 => absurd c9 (by rw [frB_1 c54 c77]; decide)) (fun c158 => ?_)
            have c158 := bI_t c158
            refine lv_iconst (v := 0) hx hb dX5_night_161 (by decide) ?_
            refine lv_aload_n hx hb dX5_night_162 rfl (lv_at hl 6 rfl) ?_
            refine lv_iload_n hx hb dX5_night_163 rfl (lv_at hl 4 rfl) ?_
            refine lv_iconst (v := 2) hx hb dX5_night_164 (by decide) ?_
            refine m_cV 2 [.int (nI u9), .int 2] [.int 0, .int 2, .int (nI u9), .ref (g 0)] hx hb hml hown hts hK (c_pe l E A g M (uU (uU (uU (uU (uU (mS σ i) u9 3 (-1)) u9 4 0) u9 0 ((sGu (mS σ i) u9 0) - (due (mS σ i) i (nI u9)) + (ltB (mS σ i) i u9))) u9 5 ((sGu (mS σ i) u9 5) + 1)) u9 6 (baN (sGu (mS σ i) u9 6) (sGu (mS σ i) u9 2) (hON (mS σ i) (nI i) (-1) 12))) 0 hw u9 2 (by omega) (by omega)) gX5_night_X5_pe rfl rfl rfl (by decide +kernel) rfl ⟨Nat.le_of_ble_eq_true rfl, Nat.le_of_ble_eq_true rfl⟩ hM (MW.xk hw k9) rfl rfl hM hl.1 (Nat.le_of_ble_eq_true rfl) ⟨Nat.le_of_ble_eq_true rfl, Nat.le_of_ble_eq_true rfl⟩ rfl dX5_night_165 ?_
            refine W.eq (g2 := F0 m 168 ls [.int (sGu (uU (uU (uU (uU (uU (mS σ i) u9 3 (-1)) u9 4 0) u9 0 ((sGu (mS σ i) u9 0) - (due (mS σ i) i (nI u9)) + (ltB (mS σ i) i u9))) u9 5 ((sGu (mS σ i) u9 5) + 1)) u9 6 (baN (sGu (mS σ i) u9 6) (sGu (mS σ i) u9 2) (hON (mS σ i) (nI i) (-1) 12))) u9 2), .int 0, .int 2, .int (nI u9), .ref (g 0)]) rfl ?_
            rw [show (sGu (uU (uU (uU (uU (uU (mS σ i) u9 3 (-1)) u9 4 0) u9 0 ((sGu (mS σ i) u9 0) - (due (mS σ i) i (nI u9)) + (ltB (mS σ i) i u9))) u9 5 ((sGu (mS σ i) u9 5) + 1)) u9 6 (baN (sGu (mS σ i) u9 6) (sGu (mS σ i) u9 2) (hON (mS σ i) (nI i) (-1) 12))) u9 2 : Int32) = sGu (mS σ i) u9 2 from rfl]
            refine lv_iconst (v := 1) hx hb dX5_night_168 (by decide) ?_
            refine lv_isub hx hb dX5_night_169 ?_
            refine va_mmax hx hb (hml.trans hl.1.symm) hown (hts (.methodLink RX5 116 Lib.Math.max.name) (by decide +kernel)) (hts (.static Lib.Math.max.name) (by decide +kernel)) (hts (.initialized "java/lang/Math") (by decide +kernel)) (hts (.code Lib.Math.max.name Lib.Math.max.code 2 (some .int)) (by decide +kernel)) (Nat.le_of_ble_eq_true rfl) (Nat.le_of_ble_eq_true rfl) (Nat.zero_le _) (Nat.zero_le _) dX5_night_170 ?_
            refine lv_goto (tgt := 189) hx hb dX5_night_173 (by decide) ?_
            refine m_wV 3 [.int (nI u9), .int 2, .int (if 0 < ((sGu (mS σ i) u9 2) - 1) then ((sGu (mS σ i) u9 2) - 1) else 0)] [] hx hb hml hown hts hK (c_set l E A g M (uU (uU (uU (uU (uU (mS σ i) u9 3 (-1)) u9 4 0) u9 0 ((sGu (mS σ i) u9 0) - (due (mS σ i) i (nI u9)) + (ltB (mS σ i) i u9))) u9 5 ((sGu (mS σ i) u9 5) + 1)) u9 6 (baN (sGu (mS σ i) u9 6) (sGu (mS σ i) u9 2) (hON (mS σ i) (nI i) (-1) 12))) 0 hw u9 2 (by omega) (by omega) (if 0 < ((sGu (mS σ i) u9 2) - 1) then ((sGu (mS σ i) u9 2) - 1) else 0)) gX5_night_X5_set rfl rfl rfl (by decide +kernel) rfl ⟨Nat.le_of_ble_eq_true rfl, Nat.le_of_ble_eq_true rfl⟩ hM (MW.xk hw k9) rfl rfl hM hl.1 (Nat.le_of_ble_eq_true rfl) ⟨Nat.le_of_ble_eq_true rfl, Nat.le_of_ble_eq_true rfl⟩ rfl dX5_night_189 hS (fun _ _ h => h) (fun _ h => h) (fun H locs hQ hz hk hS => ?_)
            refine W.eq (g2 := F0 m 192 ls []) rfl ?_
            obtain ⟨M, hM, hw⟩ := hQ
            obtain ⟨f1, m1, hf1⟩ := MW.house hw
            obtain ⟨f2, m2, hf2⟩ := MW.joined hw
            obtain ⟨f3, m3, hf3⟩ := MW.spooks hw
            obtain ⟨f4, m4, hf4⟩ := MW.people hw
            obtain ⟨f5, m5, hf5⟩ := MW.numbers hw
            obtain ⟨M, hM, hw⟩ : ∃ M', mP E A g M' H ∧ MW E g M' (uU (uU (uU (uU (uU (uU (mS σ i) u9 3 (-1)) u9 4 0) u9 0 ((sGu (mS σ i) u9 0) - (due (mS σ i) i (nI u9)) + (ltB (mS σ i) i u9))) u9 5 ((sGu (mS σ i) u9 5) + 1)) u9 6 (baN (sGu (mS σ i) u9 6) (sGu (mS σ i) u9 2) (hON (mS σ i) (nI i) (-1) 12))) u9 2 (nvN (sGu (mS σ i) u9 2) (hON (mS σ i) (nI i) (-1) 12))) 0 := ⟨_, hM, by rw [nvN, if_pos c158, ← mx0]; exact hw⟩
            obtain ⟨f1, m1, hf1⟩ := MW.house hw
            obtain ⟨f2, m2, hf2⟩ := MW.joined hw
            obtain ⟨f3, m3, hf3⟩ := MW.spooks hw
            obtain ⟨f4, m4, hf4⟩ := MW.people hw
            obtain ⟨f5, m5, hf5⟩ := MW.numbers hw
            refine lv_iload hx hb dX5_night_192 (lv_at hl 0 rfl) ?_
            refine lv_if_eq (tgt := 213) hx hb dX5_night_194 (by decide) (fun c9 => absurd c9 (by rw [c158]; decide)) (fun c194 => ?_)
            have c194 := bI_t c194
            refine lv_aload_n hx hb dX5_night_197 rfl (lv_at hl 6 rfl) ?_
            refine lv_iload_n hx hb dX5_night_198 rfl (lv_at hl 5 rfl) ?_
            refine lv_iconst (v := 1) hx hb dX5_night_199 (by decide) ?_
            refine m_cV 2 [.int (nI i), .int 1] [] hx hb hml hown hts hK (c_ro l E A g M (uU (uU (uU (uU (uU (uU (mS σ i) u9 3 (-1)) u9 4 0) u9 0 ((sGu (mS σ i) u9 0) - (due (mS σ i) i (nI u9)) + (ltB (mS σ i) i u9))) u9 5 ((sGu (mS σ i) u9 5) + 1)) u9 6 (baN (sGu (mS σ i) u9 6) (sGu (mS σ i) u9 2) (hON (mS σ i) (nI i) (-1) 12))) u9 2 (nvN (sGu (mS σ i) u9 2) (hON (mS σ i) (nI i) (-1) 12))) 0 hw i 1 (by omega) (by omega)) gX5_night_X5_ro rfl rfl rfl (by decide +kernel) rfl ⟨Nat.le_of_ble_eq_true rfl, Nat.le_of_ble_eq_true rfl⟩ hM (MW.xk hw k9) rfl rfl hM hl.1 (Nat.le_of_ble_eq_true rfl) ⟨Nat.le_of_ble_eq_true rfl, Nat.le_of_ble_eq_true rfl⟩ rfl dX5_night_200 ?_
            refine W.eq (g2 := F0 m 203 ls [.int (sRm (uU (uU (uU (uU (uU (uU (mS σ i) u9 3 (-1)) u9 4 0) u9 0 ((sGu (mS σ i) u9 0) - (due (mS σ i) i (nI u9)) + (ltB (mS σ i) i u9))) u9 5 ((sGu (mS σ i) u9 5) + 1)) u9 6 (baN (sGu (mS σ i) u9 6) (sGu (mS σ i) u9 2) (hON (mS σ i) (nI i) (-1) 12))) u9 2 (nvN (sGu (mS σ i) u9 2) (hON (mS σ i) (nI i) (-1) 12))) i 1)]) rfl ?_
            rw [show (sRm (uU (uU (uU (uU (uU (uU (mS σ i) u9 3 (-1)) u9 4 0) u9 0 ((sGu (mS σ i) u9 0) - (due (mS σ i) i (nI u9)) + (ltB (mS σ i) i u9))) u9 5 ((sGu (mS σ i) u9 5) + 1)) u9 6 (baN (sGu (mS σ i) u9 6) (sGu (mS σ i) u9 2) (hON (mS σ i) (nI i) (-1) 12))) u9 2 (nvN (sGu (mS σ i) u9 2) (hON (mS σ i) (nI i) (-1) 12))) i 1 : Int32) = sRm (mS σ i) i 1 from rfl]
            refine lv_if_le (tgt := 213) hx hb dX5_night_203 (by decide) (fun c203 => ?_) (fun c203 => ?_)
            · obtain ⟨M, hM, hw⟩ : ∃ M', mP E A g M' H ∧ MW E g M' (uR (uU (uU (uU (uU (uU (uU (mS σ i) u9 3 (-1)) u9 4 0) u9 0 ((sGu (mS σ i) u9 0) - (due (mS σ i) i (nI u9)) + (ltB (mS σ i) i u9))) u9 5 ((sGu (mS σ i) u9 5) + 1)) u9 6 (baN (sGu (mS σ i) u9 6) (sGu (mS σ i) u9 2) (hON (mS σ i) (nI i) (-1) 12))) u9 2 (nvN (sGu (mS σ i) u9 2) (hON (mS σ i) (nI i) (-1) 12))) i 1 (rcN (sRm (mS σ i) i 1) (frB (sGu (mS σ i) u9 2) (hON (mS σ i) (nI i) (-1) 12)))) 0 := ⟨_, hM, hw.sameR (show rcN (sRm (mS σ i) i 1) (frB (sGu (mS σ i) u9 2) (hON (mS σ i) (nI i) (-1) 12)) = (sRm (mS σ i) i 1) from by rw [c194, rc_zero (hv.2.1 i (by omega)).1 c203])⟩
              obtain ⟨f1, m1, hf1⟩ := MW.house hw
              obtain ⟨f2, m2, hf2⟩ := MW.joined hw
              obtain ⟨f3, m3, hf3⟩ := MW.spooks hw
              obtain ⟨f4, m4, hf4⟩ := MW.people hw
              obtain ⟨f5, m5, hf5⟩ := MW.numbers hw
              refine lv_aload_n hx hb dX5_night_213 rfl (lv_at hl 6 rfl) ?_
              refine lv_iload_n hx hb dX5_night_214 rfl (lv_at hl 5 rfl) ?_
              refine lv_iconst (v := 3) hx hb dX5_night_215 (by decide) ?_
              refine lv_iconst (v := 1) hx hb dX5_night_216 (by decide) ?_
              refine m_wV 3 [.int (nI i), .int 3, .int 1] [] hx hb hml hown hts hK (c_addRo l E A g M (uR (uU (uU (uU (uU (uU (uU (mS σ i) u9 3 (-1)) u9 4 0) u9 0 ((sGu (mS σ i) u9 0) - (due (mS σ i) i (nI u9)) + (ltB (mS σ i) i u9))) u9 5 ((sGu (mS σ i) u9 5) + 1)) u9 6 (baN (sGu (mS σ i) u9 6) (sGu (mS σ i) u9 2) (hON (mS σ i) (nI i) (-1) 12))) u9 2 (nvN (sGu (mS σ i) u9 2) (hON (mS σ i) (nI i) (-1) 12))) i 1 (rcN (sRm (mS σ i) i 1) (frB (sGu (mS σ i) u9 2) (hON (mS σ i) (nI i) (-1) 12)))) 0 hw i 3 (by omega) (by omega) 1) gX5_night_X5_addRo rfl rfl rfl (by decide +kernel) rfl ⟨Nat.le_of_ble_eq_true rfl, Nat.le_of_ble_eq_true rfl⟩ hM (MW.xk hw k9) rfl rfl hM hl.1 (Nat.le_of_ble_eq_true rfl) ⟨Nat.le_of_ble_eq_true rfl, Nat.le_of_ble_eq_true rfl⟩ rfl dX5_night_217 hS (fun _ _ h => h) (fun _ h => h) (fun H locs hQ hz hk hS => ?_)
              refine W.eq (g2 := F0 m 220 ls []) rfl ?_
              obtain ⟨M, hM, hw⟩ := hQ
              have hw : MW E g M (uR (uR (uU (uU (uU (uU (uU (uU (mS σ i) u9 3 (-1)) u9 4 0) u9 0 ((sGu (mS σ i) u9 0) - (due (mS σ i) i (nI u9)) + (ltB (mS σ i) i u9))) u9 5 ((sGu (mS σ i) u9 5) + 1)) u9 6 (baN (sGu (mS σ i) u9 6) (sGu (mS σ i) u9 2) (hON (mS σ i) (nI i) (-1) 12))) u9 2 (nvN (sGu (mS σ i) u9 2) (hON (mS σ i) (nI i) (-1) 12))) i 1 (rcN (sRm (mS σ i) i 1) (frB (sGu (mS σ i) u9 2) (hON (mS σ i) (nI i) (-1) 12)))) i 3 (sRm (mS σ i) i 3 + 1)) 0 := hw
              obtain ⟨f1, m1, hf1⟩ := MW.house hw
              obtain ⟨f2, m2, hf2⟩ := MW.joined hw
              obtain ⟨f3, m3, hf3⟩ := MW.spooks hw
              obtain ⟨f4, m4, hf4⟩ := MW.people hw
              obtain ⟨f5, m5, hf5⟩ := MW.numbers hw
              refine lv_aload_n hx hb dX5_night_220 rfl (lv_at hl 6 rfl) ?_
              refine lv_iload_n hx hb dX5_night_221 rfl (lv_at hl 5 rfl) ?_
              refine lv_iconst (v := 4) hx hb dX5_night_222 (by decide) ?_
              refine lv_iload_n hx hb dX5_night_223 rfl (lv_at hl 3 rfl) ?_
              refine lv_iload hx hb dX5_night_224 (lv_at hl 1 rfl) ?_
              refine lv_isub hx hb dX5_night_226 ?_
              refine m_wV 3 [.int (nI i), .int 4, .int ((due (mS σ i) i (nI u9)) - (ltB (mS σ i) i u9))] [] hx hb hml hown hts hK (c_addRo l E A g M (uR (uR (uU (uU (uU (uU (uU (uU (mS σ i) u9 3 (-1)) u9 4 0) u9 0 ((sGu (mS σ i) u9 0) - (due (mS σ i) i (nI u9)) + (ltB (mS σ i) i u9))) u9 5 ((sGu (mS σ i) u9 5) + 1)) u9 6 (baN (sGu (mS σ i) u9 6) (sGu (mS σ i) u9 2) (hON (mS σ i) (nI i) (-1) 12))) u9 2 (nvN (sGu (mS σ i) u9 2) (hON (mS σ i) (nI i) (-1) 12))) i 1 (rcN (sRm (mS σ i) i 1) (frB (sGu (mS σ i) u9 2) (hON (mS σ i) (nI i) (-1) 12)))) i 3 (sRm (mS σ i) i 3 + 1)) 0 hw i 4 (by omega) (by omega) ((due (mS σ i) i (nI u9)) - (ltB (mS σ i) i u9))) gX5_night_X5_addRo rfl rfl rfl (by decide +kernel) rfl ⟨Nat.le_of_ble_eq_true rfl, Nat.le_of_ble_eq_true rfl⟩ hM (MW.xk hw k9) rfl rfl hM hl.1 (Nat.le_of_ble_eq_true rfl) ⟨Nat.le_of_ble_eq_true rfl, Nat.le_of_ble_eq_true rfl⟩ rfl dX5_night_227 hS (fun _ _ h => h) (fun _ h => h) (fun H locs hQ hz hk hS => ?_)
              refine W.eq (g2 := F0 m 230 ls []) rfl ?_
              obtain ⟨M, hM, hw⟩ := hQ
              have hw : MW E g M (uR (uR (uR (uU (uU (uU (uU (uU (uU (mS σ i) u9 3 (-1)) u9 4 0) u9 0 ((sGu (mS σ i) u9 0) - (due (mS σ i) i (nI u9)) + (ltB (mS σ i) i u9))) u9 5 ((sGu (mS σ i) u9 5) + 1)) u9 6 (baN (sGu (mS σ i) u9 6) (sGu (mS σ i) u9 2) (hON (mS σ i) (nI i) (-1) 12))) u9 2 (nvN (sGu (mS σ i) u9 2) (hON (mS σ i) (nI i) (-1) 12))) i 1 (rcN (sRm (mS σ i) i 1) (frB (sGu (mS σ i) u9 2) (hON (mS σ i) (nI i) (-1) 12)))) i 3 (sRm (mS σ i) i 3 + 1)) i 4 (sRm (mS σ i) i 4 + ((due (mS σ i) i (nI u9)) - (ltB (mS σ i) i u9)))) 0 := hw
              obtain ⟨f1, m1, hf1⟩ := MW.house hw
              obtain ⟨f2, m2, hf2⟩ := MW.joined hw
              obtain ⟨f3, m3, hf3⟩ := MW.spooks hw
              obtain ⟨f4, m4, hf4⟩ := MW.people hw
              obtain ⟨f5, m5, hf5⟩ := MW.numbers hw
              refine lv_aload_n hx hb dX5_night_230 rfl (lv_at hl 6 rfl) ?_
              refine m_get hx hb hts in_X5_night_X5 hown hK hM (MW.xk hw k9) rfl 9 (by decide) (by decide +kernel) rfl dX5_night_231 ?_
              refine lv_iconst (v := 1) hx hb dX5_night_234 (by decide) ?_
              refine lv_dup2_11 hx hb dX5_night_235 rfl rfl ?_
              refine m_iald (v := sH (mS σ i)) hx hb hK hM m5 (ix_ok (n := 1) ⟨by decide, by decide⟩) (hf5.2.1) dX5_night_236 ?_
              refine lv_iload_n hx hb dX5_night_237 rfl (lv_at hl 3 rfl) ?_
              refine lv_iload hx hb dX5_night_238 (lv_at hl 1 rfl) ?_
              refine lv_isub hx hb dX5_night_240 ?_
              refine lv_iadd hx hb dX5_night_241 ?_
              refine m_iast hx hb hK hM hS m5 (ix_ok (n := 1) ⟨by decide, by decide⟩) dX5_night_242 (fun H locs hM hz hS => ?_)
              obtain ⟨M, hM, hw⟩ : ∃ M', mP E A g M' H ∧ MW E g M' (uN (uR (uR (uR (uU (uU (uU (uU (uU (uU (mS σ i) u9 3 (-1)) u9 4 0) u9 0 ((sGu (mS σ i) u9 0) - (due (mS σ i) i (nI u9)) + (ltB (mS σ i) i u9))) u9 5 ((sGu (mS σ i) u9 5) + 1)) u9 6 (baN (sGu (mS σ i) u9 6) (sGu (mS σ i) u9 2) (hON (mS σ i) (nI i) (-1) 12))) u9 2 (nvN (sGu (mS σ i) u9 2) (hON (mS σ i) (nI i) (-1) 12))) i 1 (rcN (sRm (mS σ i) i 1) (frB (sGu (mS σ i) u9 2) (hON (mS σ i) (nI i) (-1) 12)))) i 3 (sRm (mS σ i) i 3 + 1)) i 4 (sRm (mS σ i) i 4 + ((due (mS σ i) i (nI u9)) - (ltB (mS σ i) i u9)))) (sN (mS σ i)) (sH (mS σ i) + ((due (mS σ i) i (nI u9)) - (ltB (mS σ i) i u9))) (sB (mS σ i))) 0 := ⟨_, hM, MW.putN (n := sN (mS σ i)) (h := sH (mS σ i) + ((due (mS σ i) i (nI u9)) - (ltB (mS σ i) i u9))) (b := sB (mS σ i)) hw ((pk_un (by decide)).trans hf5.1) pk_us ((pk_un (by decide)).trans hf5.2.2)⟩
              obtain ⟨f1, m1, hf1⟩ := MW.house hw
              obtain ⟨f2, m2, hf2⟩ := MW.joined hw
              obtain ⟨f3, m3, hf3⟩ := MW.spooks hw
              obtain ⟨f4, m4, hf4⟩ := MW.people hw
              obtain ⟨f5, m5, hf5⟩ := MW.numbers hw
              refine lv_aload_n hx hb dX5_night_243 rfl (lv_at hl 6 rfl) ?_
              refine m_get hx hb hts in_X5_night_X5 hown hK hM (MW.xk hw k9) rfl 9 (by decide) (by decide +kernel) rfl dX5_night_244 ?_
              refine lv_iconst (v := 2) hx hb dX5_night_247 (by decide) ?_
              refine lv_dup2_11 hx hb dX5_night_248 rfl rfl ?_
              refine m_iald (v := sB (mS σ i)) hx hb hK hM m5 (ix_ok (n := 2) ⟨by decide, by decide⟩) (hf5.2.2) dX5_night_249 ?_
              refine lv_iload hx hb dX5_night_250 (lv_at hl 1 rfl) ?_
              refine lv_iadd hx hb dX5_night_252 ?_
              refine m_iast hx hb hK hM hS m5 (ix_ok (n := 2) ⟨by decide, by decide⟩) dX5_night_253 (fun H locs hM hz hS => ?_)
              obtain ⟨M, hM, hw⟩ : ∃ M', mP E A g M' H ∧ MW E g M' (uN (uR (uR (uR (uU (uU (uU (uU (uU (uU (mS σ i) u9 3 (-1)) u9 4 0) u9 0 ((sGu (mS σ i) u9 0) - (due (mS σ i) i (nI u9)) + (ltB (mS σ i) i u9))) u9 5 ((sGu (mS σ i) u9 5) + 1)) u9 6 (baN (sGu (mS σ i) u9 6) (sGu (mS σ i) u9 2) (hON (mS σ i) (nI i) (-1) 12))) u9 2 (nvN (sGu (mS σ i) u9 2) (hON (mS σ i) (nI i) (-1) 12))) i 1 (rcN (sRm (mS σ i) i 1) (frB (sGu (mS σ i) u9 2) (hON (mS σ i) (nI i) (-1) 12)))) i 3 (sRm (mS σ i) i 3 + 1)) i 4 (sRm (mS σ i) i 4 + ((due (mS σ i) i (nI u9)) - (ltB (mS σ i) i u9)))) (sN (mS σ i)) (sH (mS σ i) + ((due (mS σ i) i (nI u9)) - (ltB (mS σ i) i u9))) (sB (mS σ i) + (ltB (mS σ i) i u9))) 0 := ⟨_, hM, MW.putN (σ := uN (uR (uR (uR (uU (uU (uU (uU (uU (uU (mS σ i) u9 3 (-1)) u9 4 0) u9 0 ((sGu (mS σ i) u9 0) - (due (mS σ i) i (nI u9)) + (ltB (mS σ i) i u9))) u9 5 ((sGu (mS σ i) u9 5) + 1)) u9 6 (baN (sGu (mS σ i) u9 6) (sGu (mS σ i) u9 2) (hON (mS σ i) (nI i) (-1) 12))) u9 2 (nvN (sGu (mS σ i) u9 2) (hON (mS σ i) (nI i) (-1) 12))) i 1 (rcN (sRm (mS σ i) i 1) (frB (sGu (mS σ i) u9 2) (hON (mS σ i) (nI i) (-1) 12)))) i 3 (sRm (mS σ i) i 3 + 1)) i 4 (sRm (mS σ i) i 4 + ((due (mS σ i) i (nI u9)) - (ltB (mS σ i) i u9)))) (sN (mS σ i)) (sH (mS σ i) + ((due (mS σ i) i (nI u9)) - (ltB (mS σ i) i u9))) (sB (mS σ i))) (n := sN (mS σ i)) (h := sH (mS σ i) + ((due (mS σ i) i (nI u9)) - (ltB (mS σ i) i u9))) (b := sB (mS σ i) + (ltB (mS σ i) i u9)) hw ((pk_un (by decide)).trans hf5.1) ((pk_un (by decide)).trans hf5.2.1) pk_us⟩
              obtain ⟨f1, m1, hf1⟩ := MW.house hw
              obtain ⟨f2, m2, hf2⟩ := MW.joined hw
              obtain ⟨f3, m3, hf3⟩ := MW.spooks hw
              obtain ⟨f4, m4, hf4⟩ := MW.people hw
              obtain ⟨f5, m5, hf5⟩ := MW.numbers hw
              refine lv_iinc (v := nI (i + 1)) (lv' := [(1, .int (nI (i + 1))), (6, .int (bI (frB (sGu (mS σ i) u9 2) (hON (mS σ i) (nI i) (-1) 12)))), (5, .int (ltB (mS σ i) i u9)), (4, .int (bI (upB (sGu (mS σ i) u9 2) (hON (mS σ i) (nI i) (-1) 12)))), (3, .int (due (mS σ i) i (nI u9))), (2, .int (nI u9)), (0, .ref (g 0))]) hx hb dX5_night_254 hl (k := 5) rfl (m_inc _) (by decide) rfl (fun ls hl => ?_)
              refine lv_goto (tgt := 7) hx hb dX5_night_257 (by decide) ?_
              exact ih7 (i + 1) (by omega) _ _ _ ⟨hM, by rw [mS, ← mlF_eq (by omega) hw9]; exact hw⟩ hS ls (lv_sub hl [0, 6] rfl)
            · refine lv_aload_n hx hb dX5_night_206 rfl (lv_at hl 6 rfl) ?_
              refine lv_iload_n hx hb dX5_night_207 rfl (lv_at hl 5 rfl) ?_
              refine lv_iconst (v := 1) hx hb dX5_night_208 (by decide) ?_
              refine lv_iconst (v := (-1)) hx hb dX5_night_209 (by decide) ?_
              refine m_wV 3 [.int (nI i), .int 1, .int (-1)] [] hx hb hml hown hts hK (c_addRo l E A g M (uU (uU (uU (uU (uU (uU (mS σ i) u9 3 (-1)) u9 4 0) u9 0 ((sGu (mS σ i) u9 0) - (due (mS σ i) i (nI u9)) + (ltB (mS σ i) i u9))) u9 5 ((sGu (mS σ i) u9 5) + 1)) u9 6 (baN (sGu (mS σ i) u9 6) (sGu (mS σ i) u9 2) (hON (mS σ i) (nI i) (-1) 12))) u9 2 (nvN (sGu (mS σ i) u9 2) (hON (mS σ i) (nI i) (-1) 12))) 0 hw i 1 (by omega) (by omega) (-1)) gX5_night_X5_addRo rfl rfl rfl (by decide +kernel) rfl ⟨Nat.le_of_ble_eq_true rfl, Nat.le_of_ble_eq_true rfl⟩ hM (MW.xk hw k9) rfl rfl hM hl.1 (Nat.le_of_ble_eq_true rfl) ⟨Nat.le_of_ble_eq_true rfl, Nat.le_of_ble_eq_true rfl⟩ rfl dX5_night_210 hS (fun _ _ h => h) (fun _ h => h) (fun H locs hQ hz hk hS => ?_)
              refine W.eq (g2 := F0 m 213 ls []) rfl ?_
              obtain ⟨M, hM, hw⟩ := hQ
              have hw : MW E g M (uR (uU (uU (uU (uU (uU (uU (mS σ i) u9 3 (-1)) u9 4 0) u9 0 ((sGu (mS σ i) u9 0) - (due (mS σ i) i (nI u9)) + (ltB (mS σ i) i u9))) u9 5 ((sGu (mS σ i) u9 5) + 1)) u9 6 (baN (sGu (mS σ i) u9 6) (sGu (mS σ i) u9 2) (hON (mS σ i) (nI i) (-1) 12))) u9 2 (nvN (sGu (mS σ i) u9 2) (hON (mS σ i) (nI i) (-1) 12))) i 1 (sRm (mS σ i) i 1 + (-1))) 0 := hw
              obtain ⟨f1, m1, hf1⟩ := MW.house hw
              obtain ⟨f2, m2, hf2⟩ := MW.joined hw
              obtain ⟨f3, m3, hf3⟩ := MW.spooks hw
              obtain ⟨f4, m4, hf4⟩ := MW.people hw
              obtain ⟨f5, m5, hf5⟩ := MW.numbers hw
              obtain ⟨M, hM, hw⟩ : ∃ M', mP E A g M' H ∧ MW E g M' (uR (uU (uU (uU (uU (uU (uU (mS σ i) u9 3 (-1)) u9 4 0) u9 0 ((sGu (mS σ i) u9 0) - (due (mS σ i) i (nI u9)) + (ltB (mS σ i) i u9))) u9 5 ((sGu (mS σ i) u9 5) + 1)) u9 6 (baN (sGu (mS σ i) u9 6) (sGu (mS σ i) u9 2) (hON (mS σ i) (nI i) (-1) 12))) u9 2 (nvN (sGu (mS σ i) u9 2) (hON (mS σ i) (nI i) (-1) 12))) i 1 (rcN (sRm (mS σ i) i 1) (frB (sGu (mS σ i) u9 2) (hON (mS σ i) (nI i) (-1) 12)))) 0 := ⟨_, hM, by rw [c194, rc_pos (hv.2.1 i (by omega)) c203]; exact hw⟩
              obtain ⟨f1, m1, hf1⟩ := MW.house hw
              obtain ⟨f2, m2, hf2⟩ := MW.joined hw
              obtain ⟨f3, m3, hf3⟩ := MW.spooks hw
              obtain ⟨f4, m4, hf4⟩ := MW.people hw
              obtain ⟨f5, m5, hf5⟩ := MW.numbers hw
              refine lv_aload_n hx hb dX5_night_213 rfl (lv_at hl 6 rfl) ?_
              refine lv_iload_n hx hb dX5_night_214 rfl (lv_at hl 5 rfl) ?_
              refine lv_iconst (v := 3) hx hb dX5_night_215 (by decide) ?_
              refine lv_iconst (v := 1) hx hb dX5_night_216 (by decide) ?_
              refine m_wV 3 [.int (nI i), .int 3, .int 1] [] hx hb hml hown hts hK (c_addRo l E A g M (uR (uU (uU (uU (uU (uU (uU (mS σ i) u9 3 (-1)) u9 4 0) u9 0 ((sGu (mS σ i) u9 0) - (due (mS σ i) i (nI u9)) + (ltB (mS σ i) i u9))) u9 5 ((sGu (mS σ i) u9 5) + 1)) u9 6 (baN (sGu (mS σ i) u9 6) (sGu (mS σ i) u9 2) (hON (mS σ i) (nI i) (-1) 12))) u9 2 (nvN (sGu (mS σ i) u9 2) (hON (mS σ i) (nI i) (-1) 12))) i 1 (rcN (sRm (mS σ i) i 1) (frB (sGu (mS σ i) u9 2) (hON (mS σ i) (nI i) (-1) 12)))) 0 hw i 3 (by omega) (by omega) 1) gX5_night_X5_addRo rfl rfl rfl (by decide +kernel) rfl ⟨Nat.le_of_ble_eq_true rfl, Nat.le_of_ble_eq_true rfl⟩ hM (MW.xk hw k9) rfl rfl hM hl.1 (Nat.le_of_ble_eq_true rfl) ⟨Nat.le_of_ble_eq_true rfl, Nat.le_of_ble_eq_true rfl⟩ rfl dX5_night_217 hS (fun _ _ h => h) (fun _ h => h) (fun H locs hQ hz hk hS => ?_)
              refine W.eq (g2 := F0 m 220 ls []) rfl ?_
              obtain ⟨M, hM, hw⟩ := hQ
              have hw : MW E g M (uR (uR (uU (uU (uU (uU (uU (uU (mS σ i) u9 3 (-1)) u9 4 0) u9 0 ((sGu (mS σ i) u9 0) - (due (mS σ i) i (nI u9)) + (ltB (mS σ i) i u9))) u9 5 ((sGu (mS σ i) u9 5) + 1)) u9 6 (baN (sGu (mS σ i) u9 6) (sGu (mS σ i) u9 2) (hON (mS σ i) (nI i) (-1) 12))) u9 2 (nvN (sGu (mS σ i) u9 2) (hON (mS σ i) (nI i) (-1) 12))) i 1 (rcN (sRm (mS σ i) i 1) (frB (sGu (mS σ i) u9 2) (hON (mS σ i) (nI i) (-1) 12)))) i 3 (sRm (mS σ i) i 3 + 1)) 0 := hw
              obtain ⟨f1, m1, hf1⟩ := MW.house hw
              obtain ⟨f2, m2, hf2⟩ := MW.joined hw
              obtain ⟨f3, m3, hf3⟩ := MW.spooks hw
              obtain ⟨f4, m4, hf4⟩ := MW.people hw
              obtain ⟨f5, m5, hf5⟩ := MW.numbers hw
              refine lv_aload_n hx hb dX5_night_220 rfl (lv_at hl 6 rfl) ?_
              refine lv_iload_n hx hb dX5_night_221 rfl (lv_at hl 5 rfl) ?_
              refine lv_iconst (v := 4) hx hb dX5_night_222 (by decide) ?_
              refine lv_iload_n hx hb dX5_night_223 rfl (lv_at hl 3 rfl) ?_
              refine lv_iload hx hb dX5_night_224 (lv_at hl 1 rfl) ?_
              refine lv_isub hx hb dX5_night_226 ?_
              refine m_wV 3 [.int (nI i), .int 4, .int ((due (mS σ i) i (nI u9)) - (ltB (mS σ i) i u9))] [] hx hb hml hown hts hK (c_addRo l E A g M (uR (uR (uU (uU (uU (uU (uU (uU (mS σ i) u9 3 (-1)) u9 4 0) u9 0 ((sGu (mS σ i) u9 0) - (due (mS σ i) i (nI u9)) + (ltB (mS σ i) i u9))) u9 5 ((sGu (mS σ i) u9 5) + 1)) u9 6 (baN (sGu (mS σ i) u9 6) (sGu (mS σ i) u9 2) (hON (mS σ i) (nI i) (-1) 12))) u9 2 (nvN (sGu (mS σ i) u9 2) (hON (mS σ i) (nI i) (-1) 12))) i 1 (rcN (sRm (mS σ i) i 1) (frB (sGu (mS σ i) u9 2) (hON (mS σ i) (nI i) (-1) 12)))) i 3 (sRm (mS σ i) i 3 + 1)) 0 hw i 4 (by omega) (by omega) ((due (mS σ i) i (nI u9)) - (ltB (mS σ i) i u9))) gX5_night_X5_addRo rfl rfl rfl (by decide +kernel) rfl ⟨Nat.le_of_ble_eq_true rfl, Nat.le_of_ble_eq_true rfl⟩ hM (MW.xk hw k9) rfl rfl hM hl.1 (Nat.le_of_ble_eq_true rfl) ⟨Nat.le_of_ble_eq_true rfl, Nat.le_of_ble_eq_true rfl⟩ rfl dX5_night_227 hS (fun _ _ h => h) (fun _ h => h) (fun H locs hQ hz hk hS => ?_)
              refine W.eq (g2 := F0 m 230 ls []) rfl ?_
              obtain ⟨M, hM, hw⟩ := hQ
              have hw : MW E g M (uR (uR (uR (uU (uU (uU (uU (uU (uU (mS σ i) u9 3 (-1)) u9 4 0) u9 0 ((sGu (mS σ i) u9 0) - (due (mS σ i) i (nI u9)) + (ltB (mS σ i) i u9))) u9 5 ((sGu (mS σ i) u9 5) + 1)) u9 6 (baN (sGu (mS σ i) u9 6) (sGu (mS σ i) u9 2) (hON (mS σ i) (nI i) (-1) 12))) u9 2 (nvN (sGu (mS σ i) u9 2) (hON (mS σ i) (nI i) (-1) 12))) i 1 (rcN (sRm (mS σ i) i 1) (frB (sGu (mS σ i) u9 2) (hON (mS σ i) (nI i) (-1) 12)))) i 3 (sRm (mS σ i) i 3 + 1)) i 4 (sRm (mS σ i) i 4 + ((due (mS σ i) i (nI u9)) - (ltB (mS σ i) i u9)))) 0 := hw
              obtain ⟨f1, m1, hf1⟩ := MW.house hw
              obtain ⟨f2, m2, hf2⟩ := MW.joined hw
              obtain ⟨f3, m3, hf3⟩ := MW.spooks hw
              obtain ⟨f4, m4, hf4⟩ := MW.people hw
              obtain ⟨f5, m5, hf5⟩ := MW.numbers hw
              refine lv_aload_n hx hb dX5_night_230 rfl (lv_at hl 6 rfl) ?_
              refine m_get hx hb hts in_X5_night_X5 hown hK hM (MW.xk hw k9) rfl 9 (by decide) (by decide +kernel) rfl dX5_night_231 ?_
              refine lv_iconst (v := 1) hx hb dX5_night_234 (by decide) ?_
              refine lv_dup2_11 hx hb dX5_night_235 rfl rfl ?_
              refine m_iald (v := sH (mS σ i)) hx hb hK hM m5 (ix_ok (n := 1) ⟨by decide, by decide⟩) (hf5.2.1) dX5_night_236 ?_
              refine lv_iload_n hx hb dX5_night_237 rfl (lv_at hl 3 rfl) ?_
              refine lv_iload hx hb dX5_night_238 (lv_at hl 1 rfl) ?_
              refine lv_isub hx hb dX5_night_240 ?_
              refine lv_iadd hx hb dX5_night_241 ?_
              refine m_iast hx hb hK hM hS m5 (ix_ok (n := 1) ⟨by decide, by decide⟩) dX5_night_242 (fun H locs hM hz hS => ?_)
              obtain ⟨M, hM, hw⟩ : ∃ M', mP E A g M' H ∧ MW E g M' (uN (uR (uR (uR (uU (uU (uU (uU (uU (uU (mS σ i) u9 3 (-1)) u9 4 0) u9 0 ((sGu (mS σ i) u9 0) - (due (mS σ i) i (nI u9)) + (ltB (mS σ i) i u9))) u9 5 ((sGu (mS σ i) u9 5) + 1)) u9 6 (baN (sGu (mS σ i) u9 6) (sGu (mS σ i) u9 2) (hON (mS σ i) (nI i) (-1) 12))) u9 2 (nvN (sGu (mS σ i) u9 2) (hON (mS σ i) (nI i) (-1) 12))) i 1 (rcN (sRm (mS σ i) i 1) (frB (sGu (mS σ i) u9 2) (hON (mS σ i) (nI i) (-1) 12)))) i 3 (sRm (mS σ i) i 3 + 1)) i 4 (sRm (mS σ i) i 4 + ((due (mS σ i) i (nI u9)) - (ltB (mS σ i) i u9)))) (sN (mS σ i)) (sH (mS σ i) + ((due (mS σ i) i (nI u9)) - (ltB (mS σ i) i u9))) (sB (mS σ i))) 0 := ⟨_, hM, MW.putN (n := sN (mS σ i)) (h := sH (mS σ i) + ((due (mS σ i) i (nI u9)) - (ltB (mS σ i) i u9))) (b := sB (mS σ i)) hw ((pk_un (by decide)).trans hf5.1) pk_us ((pk_un (by decide)).trans hf5.2.2)⟩
              obtain ⟨f1, m1, hf1⟩ := MW.house hw
              obtain ⟨f2, m2, hf2⟩ := MW.joined hw
              obtain ⟨f3, m3, hf3⟩ := MW.spooks hw
              obtain ⟨f4, m4, hf4⟩ := MW.people hw
              obtain ⟨f5, m5, hf5⟩ := MW.numbers hw
              refine lv_aload_n hx hb dX5_night_243 rfl (lv_at hl 6 rfl) ?_
              refine m_get hx hb hts in_X5_night_X5 hown hK hM (MW.xk hw k9) rfl 9 (by decide) (by decide +kernel) rfl dX5_night_244 ?_
              refine lv_iconst (v := 2) hx hb dX5_night_247 (by decide) ?_
              refine lv_dup2_11 hx hb dX5_night_248 rfl rfl ?_
              refine m_iald (v := sB (mS σ i)) hx hb hK hM m5 (ix_ok (n := 2) ⟨by decide, by decide⟩) (hf5.2.2) dX5_night_249 ?_
              refine lv_iload hx hb dX5_night_250 (lv_at hl 1 rfl) ?_
              refine lv_iadd hx hb dX5_night_252 ?_
              refine m_iast hx hb hK hM hS m5 (ix_ok (n := 2) ⟨by decide, by decide⟩) dX5_night_253 (fun H locs hM hz hS => ?_)
              obtain ⟨M, hM, hw⟩ : ∃ M', mP E A g M' H ∧ MW E g M' (uN (uR (uR (uR (uU (uU (uU (uU (uU (uU (mS σ i) u9 3 (-1)) u9 4 0) u9 0 ((sGu (mS σ i) u9 0) - (due (mS σ i) i (nI u9)) + (ltB (mS σ i) i u9))) u9 5 ((sGu (mS σ i) u9 5) + 1)) u9 6 (baN (sGu (mS σ i) u9 6) (sGu (mS σ i) u9 2) (hON (mS σ i) (nI i) (-1) 12))) u9 2 (nvN (sGu (mS σ i) u9 2) (hON (mS σ i) (nI i) (-1) 12))) i 1 (rcN (sRm (mS σ i) i 1) (frB (sGu (mS σ i) u9 2) (hON (mS σ i) (nI i) (-1) 12)))) i 3 (sRm (mS σ i) i 3 + 1)) i 4 (sRm (mS σ i) i 4 + ((due (mS σ i) i (nI u9)) - (ltB (mS σ i) i u9)))) (sN (mS σ i)) (sH (mS σ i) + ((due (mS σ i) i (nI u9)) - (ltB (mS σ i) i u9))) (sB (mS σ i) + (ltB (mS σ i) i u9))) 0 := ⟨_, hM, MW.putN (σ := uN (uR (uR (uR (uU (uU (uU (uU (uU (uU (mS σ i) u9 3 (-1)) u9 4 0) u9 0 ((sGu (mS σ i) u9 0) - (due (mS σ i) i (nI u9)) + (ltB (mS σ i) i u9))) u9 5 ((sGu (mS σ i) u9 5) + 1)) u9 6 (baN (sGu (mS σ i) u9 6) (sGu (mS σ i) u9 2) (hON (mS σ i) (nI i) (-1) 12))) u9 2 (nvN (sGu (mS σ i) u9 2) (hON (mS σ i) (nI i) (-1) 12))) i 1 (rcN (sRm (mS σ i) i 1) (frB (sGu (mS σ i) u9 2) (hON (mS σ i) (nI i) (-1) 12)))) i 3 (sRm (mS σ i) i 3 + 1)) i 4 (sRm (mS σ i) i 4 + ((due (mS σ i) i (nI u9)) - (ltB (mS σ i) i u9)))) (sN (mS σ i)) (sH (mS σ i) + ((due (mS σ i) i (nI u9)) - (ltB (mS σ i) i u9))) (sB (mS σ i))) (n := sN (mS σ i)) (h := sH (mS σ i) + ((due (mS σ i) i (nI u9)) - (ltB (mS σ i) i u9))) (b := sB (mS σ i) + (ltB (mS σ i) i u9)) hw ((pk_un (by decide)).trans hf5.1) ((pk_un (by decide)).trans hf5.2.1) pk_us⟩
              obtain ⟨f1, m1, hf1⟩ := MW.house hw
              obtain ⟨f2, m2, hf2⟩ := MW.joined hw
              obtain ⟨f3, m3, hf3⟩ := MW.spooks hw
              obtain ⟨f4, m4, hf4⟩ := MW.people hw
              obtain ⟨f5, m5, hf5⟩ := MW.numbers hw
              refine lv_iinc (v := nI (i + 1)) (lv' := [(1, .int (nI (i + 1))), (6, .int (bI (frB (sGu (mS σ i) u9 2) (hON (mS σ i) (nI i) (-1) 12)))), (5, .int (ltB (mS σ i) i u9)), (4, .int (bI (upB (sGu (mS σ i) u9 2) (hON (mS σ i) (nI i) (-1) 12)))), (3, .int (due (mS σ i) i (nI u9))), (2, .int (nI u9)), (0, .ref (g 0))]) hx hb dX5_night_254 hl (k := 5) rfl (m_inc _) (by decide) rfl (fun ls hl => ?_)
              refine lv_goto (tgt := 7) hx hb dX5_night_257 (by decide) ?_
              exact ih7 (i + 1) (by omega) _ _ _ ⟨hM, by rw [mS, ← mlF_eq (by omega) hw9]; exact hw⟩ hS ls (lv_sub hl [0, 6] rfl)
      · skip
        refine lv_goto (tgt := 254) hx hb dX5_night_26 (by decide) ?_
        refine lv_iinc (v := nI (i + 1)) (lv' := [(1, .int (nI (i + 1))), (2, .int (wnr (mS σ i) i)), (0, .ref (g 0))]) hx hb dX5_night_254 hl (k := 1) rfl (m_inc _) (by decide) rfl (fun ls hl => ?_)
        refine lv_goto (tgt := 7) hx hb dX5_night_257 (by decide) ?_
        exact ih7 (i + 1) (by omega) _ _ _ ⟨hM, by rw [mS, mlF, if_pos c23]; exact hw⟩ hS ls (lv_sub hl [0, 2] rfl)
  exact lp7 (kR σ) 0 (by omega) _ _ _ ⟨hM, hw⟩ hS ls (lv_sub hl [0, 1] rfl)
