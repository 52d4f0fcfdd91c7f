/-! states changed at one place -/
def up2 (f : Nat → Nat → Int32) (i k : Nat) (v : Int32) : Nat → Nat → Int32 := fun a b => if b = k ∧ a = i then v else f a b
def uR (σ : Sg) (i k : Nat) (v : Int32) : Sg := (up2 (sRm σ) i k v, σ.2)
def uU (σ : Sg) (i k : Nat) (v : Int32) : Sg := (σ.1, σ.2.1, up2 (sGu σ) i k v, σ.2.2.2)
def uJ (σ : Sg) (i : Nat) (v : Int32) : Sg := (σ.1, σ.2.1, σ.2.2.1, (fun a => if a = i then v else sJn σ a), σ.2.2.2.2)
def uN (σ : Sg) (n h b : Int32) : Sg := (σ.1, σ.2.1, σ.2.2.1, σ.2.2.2.1, σ.2.2.2.2.1, (n, h, b))
def uK (σ : Sg) (r g u d : Nat) : Sg := (σ.1, σ.2.1, σ.2.2.1, σ.2.2.2.1, (r, g, u, d), σ.2.2.2.2.2)
theorem up2_s {f : Nat → Nat → Int32} {i k : Nat} {v : Int32} : up2 f i k v i k = v := if_pos ⟨rfl, rfl⟩
theorem up2_n {f : Nat → Nat → Int32} {i k a b : Nat} {v : Int32} (h : ¬ (b = k ∧ a = i)) : up2 f i k v a b = f a b := if_neg h
section
variable {E : gE} {g : Nat → Nat} {M : gM} {σ : Sg} {th : Int32}
theorem MW.put0 {σ2 : Sg} {th2 : Int32} (hw : MW E g M σ th) (h1 : sRm σ2 = sRm σ) (h2 : sGh σ2 = sGh σ) (h3 : sGu σ2 = sGu σ) (h4 : sJn σ2 = sJn σ) (h5 : sN σ2 = sN σ) (h6 : sH σ2 = sH σ) (h7 : sB σ2 = sB σ) :
    MW E g (mu M 0 (.inr (6, [.int th2, .int (nI (kR σ2)), .int (nI (kD σ2)), .int (nI (kG σ2)), .int (nI (kU σ2)), .ref (g 1), .ref (g 2), .ref (g 3), .ref (g 4), .ref (g 5), .ref (g 6)]))) σ2 th2 := by
  obtain ⟨-, a1, a2, a3, a4, a5, a6, a7⟩ := hw
  refine ⟨mu_s, ?_, ?_, ?_, ?_, ?_, ?_, fun t ht => by rw [mu_n (by omega)]; exact a7 t ht⟩
  · rw [mu_n (by decide), h1]; exact a1
  · rw [mu_n (by decide), h4]; exact a2
  · rw [mu_n (by decide), h2]; exact a3
  · rw [mu_n (by decide), h3]; exact a4
  · rw [mu_n (by decide), h5, h6, h7]; exact a5
  · rw [mu_n (by decide)]; exact a6
theorem MW.setTh (hw : MW E g M σ th) (th2 : Int32) : MW E g (mu M 0 (.inr (6, [.int th2, .int (nI (kR σ)), .int (nI (kD σ)), .int (nI (kG σ)), .int (nI (kU σ)), .ref (g 1), .ref (g 2), .ref (g 3), .ref (g 4), .ref (g 5), .ref (g 6)]))) σ th2 := MW.put0 hw rfl rfl rfl rfl rfl rfl rfl
theorem MW.putR {f : Nat → Int32} {σ2 : Sg} (hw : MW E g M σ th) (hσ : σ2.2 = σ.2) (hf : ∀ r k, r < 10 → k < 5 → f (5 * r + k) = sRm σ2 r k) : MW E g (mu M 1 (.inl (E.2.1, 50, .inl f))) σ2 th := by
  obtain ⟨r1, r2⟩ := σ2
  obtain ⟨q1, q2⟩ := σ
  cases hσ
  obtain ⟨a0, -, a2, a3, a4, a5, a6, a7⟩ := hw
  refine ⟨?_, ⟨f, mu_s, hf⟩, ?_, ?_, ?_, ?_, ?_, fun t ht => by rw [mu_n (by omega)]; exact a7 t ht⟩
  · rw [mu_n (by decide)]; exact a0
  · rw [mu_n (by decide)]; exact a2
  · rw [mu_n (by decide)]; exact a3
  · rw [mu_n (by decide)]; exact a4
  · rw [mu_n (by decide)]; exact a5
  · rw [mu_n (by decide)]; exact a6
theorem MW.putJ {f : Nat → Int32} {v : Nat → Int32} (hw : MW E g M σ th) (hf : ∀ r, r < 10 → f r = v r) : MW E g (mu M 2 (.inl (E.2.1, 10, .inl f))) (σ.1, σ.2.1, σ.2.2.1, v, σ.2.2.2.2) th := by
  obtain ⟨a0, a1, -, a3, a4, a5, a6, a7⟩ := hw
  refine ⟨?_, ?_, ⟨f, mu_s, hf⟩, ?_, ?_, ?_, ?_, fun t ht => by rw [mu_n (by omega)]; exact a7 t ht⟩
  · rw [mu_n (by decide)]; exact a0
  · rw [mu_n (by decide)]; exact a1
  · rw [mu_n (by decide)]; exact a3
  · rw [mu_n (by decide)]; exact a4
  · rw [mu_n (by decide)]; exact a5
  · rw [mu_n (by decide)]; exact a6
theorem MW.putG {f : Nat → Int32} {v : Nat → Nat → Int32} (hw : MW E g M σ th) (hf : ∀ i k, i < 5 → k < 4 → f (4 * i + k) = v i k) : MW E g (mu M 3 (.inl (E.2.1, 20, .inl f))) (σ.1, v, σ.2.2) th := by
  obtain ⟨a0, a1, a2, -, a4, a5, a6, a7⟩ := hw
  refine ⟨?_, ?_, ?_, ⟨f, mu_s, hf⟩, ?_, ?_, ?_, fun t ht => by rw [mu_n (by omega)]; exact a7 t ht⟩
  · rw [mu_n (by decide)]; exact a0
  · rw [mu_n (by decide)]; exact a1
  · rw [mu_n (by decide)]; exact a2
  · rw [mu_n (by decide)]; exact a4
  · rw [mu_n (by decide)]; exact a5
  · rw [mu_n (by decide)]; exact a6
theorem MW.putU {f : Nat → Int32} {v : Nat → Nat → Int32} (hw : MW E g M σ th) (hf : ∀ u k, u < 12 → k < 7 → f (7 * u + k) = v u k) : MW E g (mu M 4 (.inl (E.2.1, 84, .inl f))) (σ.1, σ.2.1, v, σ.2.2.2) th := by
  obtain ⟨a0, a1, a2, a3, -, a5, a6, a7⟩ := hw
  refine ⟨?_, ?_, ?_, ?_, ⟨f, mu_s, hf⟩, ?_, ?_, fun t ht => by rw [mu_n (by omega)]; exact a7 t ht⟩
  · rw [mu_n (by decide)]; exact a0
  · rw [mu_n (by decide)]; exact a1
  · rw [mu_n (by decide)]; exact a2
  · rw [mu_n (by decide)]; exact a3
  · rw [mu_n (by decide)]; exact a5
  · rw [mu_n (by decide)]; exact a6
theorem MW.putN {f : Nat → Int32} {n h b : Int32} (hw : MW E g M σ th) (h0 : f 0 = n) (h1 : f 1 = h) (h2 : f 2 = b) : MW E g (mu M 5 (.inl (E.2.1, 3, .inl f))) (uN σ n h b) th := by
  obtain ⟨a0, a1, a2, a3, a4, -, a6, a7⟩ := hw
  refine ⟨?_, ?_, ?_, ?_, ?_, ⟨f, mu_s, h0, h1, h2⟩, ?_, fun t ht => by rw [mu_n (by omega)]; exact a7 t ht⟩
  · rw [mu_n (by decide)]; exact a0
  · rw [mu_n (by decide)]; exact a1
  · rw [mu_n (by decide)]; exact a2
  · rw [mu_n (by decide)]; exact a3
  · rw [mu_n (by decide)]; exact a4
  · rw [mu_n (by decide)]; exact a6
end
theorem upd_up2 {f : Nat → Int32} {v : Nat → Nat → Int32} {a b i k B : Nat} {x : Int32} (h : ∀ r c, r < a → c < b → f (b * r + c) = v r c) (hB : b * i + k < 2 ^ 31) (hk : k < b) (r c : Nat) (hr : r < a) (hc : c < b) : upd f (nI (b * i + k)).toNatClampNeg x (b * r + c) = up2 v i k x r c := by
  rw [nI_clamp hB]
  by_cases e : c = k ∧ r = i
  · obtain ⟨rfl, rfl⟩ := e
    rw [pk_us, up2_s]
  · rw [pk_un, up2_n e]
    · exact h r c hr hc
    · intro q
      apply e
      have h1 : (b * r + c) % b = (b * i + k) % b := by rw [q]
      rw [Nat.mul_add_mod, Nat.mul_add_mod, Nat.mod_eq_of_lt hc, Nat.mod_eq_of_lt hk] at h1
      subst h1
      exact ⟨rfl, Nat.eq_of_mul_eq_mul_left (show 0 < b by omega) (by omega)⟩
theorem in_X5_fail_X5 : ∀ w ∈ u_ws RX5 TX5 11, w ∈ wsX5_fail := by decide +kernel
set_option maxHeartbeats 4000000 in
set_option maxRecDepth 100000 in
theorem c_fail (l : Launch) (E : gE) (A : Nat → Prop) (g : Nat → Nat) (M : gM) (σ : Sg) (th : Int32) (hw : MW E g M σ th) (x : Int32) : Met l yX5_fail wsX5_fail ({ frames := 0, cells := 0, slots := 0, locals := 0 } : Room) (Pm E [.ref (g 0), .int x] (mP E A g M)) (QW (some (.int 0)) (fun H => ∃ M', mP E A g M' H ∧ MW E g M' σ x) A) 0 0 A := by
  refine m_entry (by decide) rfl (Nat.le_of_ble_eq_true rfl) ?_
  intro p e s m args below meth c hx hb hr hml hts hown hlocks hin hM hK ls hl
  have hl : lv_has ls 2 [(0, .ref (g 0)), (1, .int x)] := hl
  have hown : s.vm.findClass RX5 = some m.cls := hown
  have hS : va_S A s.heap s.heap [] := va_S.rf
  skip
  obtain ⟨f1, m1, hf1⟩ := MW.house hw
  obtain ⟨f2, m2, hf2⟩ := MW.joined hw
  obtain ⟨f3, m3, hf3⟩ := MW.spooks hw
  obtain ⟨f4, m4, hf4⟩ := MW.people hw
  obtain ⟨f5, m5, hf5⟩ := MW.numbers hw
  refine lv_aload_n hx hb dX5_fail_0 rfl (lv_at hl 0 rfl) ?_
  refine lv_iload_n hx hb dX5_fail_1 rfl (lv_at hl 1 rfl) ?_
  refine m_put hx hb hts in_X5_fail_X5 tyX5 tyX5_ok nmX5 hown hK hM hS (MW.x hw) rfl 0 (by decide) (by decide +kernel) rfl (tyX5_ok 0 (by decide)) rfl rfl (Nat.le_of_ble_eq_true rfl) dX5_fail_2 (fun H locs hM hz hS => ?_)
  obtain ⟨M, hM, hw⟩ : ∃ M', mP E A g M' H ∧ MW E g M' σ x := ⟨_, hM, MW.setTh hw _⟩
  obtain ⟨f1, m1, hf1⟩ := MW.house hw
  obtain ⟨f2, m2, hf2⟩ := MW.joined hw
  obtain ⟨f3, m3, hf3⟩ := MW.spooks hw
  obtain ⟨f4, m4, hf4⟩ := MW.people hw
  obtain ⟨f5, m5, hf5⟩ := MW.numbers hw
  refine lv_iconst (v := 0) hx hb dX5_fail_5 (by decide) ?_
  exact w_i hx hb hr hlocks dX5_fail_6 hS (Nat.le_of_ble_eq_true rfl) (Nat.le_of_ble_eq_true rfl) (by first | rfl | assumption) (⟨_, hM, hw⟩)
theorem in_X5_set_X5 : ∀ w ∈ u_ws RX5 TX5 11, w ∈ wsX5_set := by decide +kernel
set_option maxHeartbeats 4000000 in
set_option maxRecDepth 100000 in
theorem c_set (l : Launch) (E : gE) (A : Nat → Prop) (g : Nat → Nat) (M : gM) (σ : Sg) (th : Int32) (hw : MW E g M σ th) (i k : Nat) (hi : i < 12) (hk : k < 7) (x : Int32) : Met l yX5_set wsX5_set ({ frames := 0, cells := 0, slots := 0, locals := 0 } : Room) (Pm E [.ref (g 0), .int (nI i), .int (nI k), .int x] (mP E A g M)) (QW none (fun H => ∃ M', mP E A g M' H ∧ MW E g M' (uU σ i k x) th) A) 0 0 A := by
  refine m_entry (by decide) rfl (Nat.le_of_ble_eq_true rfl) ?_
  intro p e s m args below meth c hx hb hr hml hts hown hlocks hin hM hK ls hl
  have hl : lv_has ls 4 [(0, .ref (g 0)), (1, .int (nI i)), (2, .int (nI k)), (3, .int x)] := hl
  have hown : s.vm.findClass RX5 = some m.cls := hown
  have hS : va_S A s.heap s.heap [] := va_S.rf
  skip
  obtain ⟨f1, m1, hf1⟩ := MW.house hw
  obtain ⟨f2, m2, hf2⟩ := MW.joined hw
  obtain ⟨f3, m3, hf3⟩ := MW.spooks hw
  obtain ⟨f4, m4, hf4⟩ := MW.people hw
  obtain ⟨f5, m5, hf5⟩ := MW.numbers hw
  refine lv_aload_n hx hb dX5_set_0 rfl (lv_at hl 0 rfl) ?_
  refine m_get hx hb hts in_X5_set_X5 hown hK hM (MW.x hw) rfl 8 (by decide) (by decide +kernel) rfl dX5_set_1 ?_
  refine lv_bipush (v := 7) hx hb dX5_set_4 (by decide) ?_
  refine lv_iload_n hx hb dX5_set_6 rfl (lv_at hl 1 rfl) ?_
  refine lv_imul hx hb dX5_set_7 ?_
  refine lv_iload_n hx hb dX5_set_8 rfl (lv_at hl 2 rfl) ?_
  refine lv_iadd hx hb dX5_set_9 ?_
  rw [show ((7 * (nI i)) + (nI k) : Int32) = nI (7 * i + k) from ix_m 7 i k]
  refine lv_iload_n hx hb dX5_set_10 rfl (lv_at hl 3 rfl) ?_
  refine m_iast hx hb hK hM hS m4 (ix_ok (by omega)) dX5_set_11 (fun H locs hM hz hS => ?_)
  obtain ⟨M, hM, hw⟩ : ∃ M', mP E A g M' H ∧ MW E g M' (uU σ i k x) th := ⟨_, hM, MW.putU hw (fun r c hr hc => upd_up2 (B := 0) hf4 (by omega) hk r c hr hc)⟩
  obtain ⟨f1, m1, hf1⟩ := MW.house hw
  obtain ⟨f2, m2, hf2⟩ := MW.joined hw
  obtain ⟨f3, m3, hf3⟩ := MW.spooks hw
  obtain ⟨f4, m4, hf4⟩ := MW.people hw
  obtain ⟨f5, m5, hf5⟩ := MW.numbers hw
  exact w_v hx hb hr hlocks dX5_set_12 hS (Nat.le_of_ble_eq_true rfl) (Nat.le_of_ble_eq_true rfl) (⟨_, hM, hw⟩)
set_option maxHeartbeats 4000000 in
set_option maxRecDepth 100000 in
theorem c_withdraw (l : Launch) (E : gE) (A : Nat → Prop) (g : Nat → Nat) (M : gM) (σ : Sg) (th : Int32) (hw : MW E g M σ th) (i : Nat) (hi : i < 12) : Met l yX5_withdraw wsX5_withdraw ({ frames := 1, cells := 0, slots := 0, locals := 23 } : Room) (Pm E [.ref (g 0), .int (nI i)] (mP E A g M)) (QW none (fun H => ∃ M', mP E A g M' H ∧ MW E g M' (uU (uU σ i 3 (-1)) i 4 0) th) A) 0 0 A := by
  refine m_entry (by decide) rfl (Nat.le_of_ble_eq_true rfl) ?_
  intro p e s m args below meth c hx hb hr hml hts hown hlocks hin hM hK ls hl
  have hl : lv_has ls 2 [(0, .ref (g 0)), (1, .int (nI i))] := hl
  have hown : s.vm.findClass RX5 = some m.cls := hown
  have hS : va_S A s.heap s.heap [] := va_S.rf
  skip
  obtain ⟨f1, m1, hf1⟩ := MW.house hw
  obtain ⟨f2, m2, hf2⟩ := MW.joined hw
  obtain ⟨f3, m3, hf3⟩ := MW.spooks hw
  obtain ⟨f4, m4, hf4⟩ := MW.people hw
  obtain ⟨f5, m5, hf5⟩ := MW.numbers hw
  refine lv_aload_n hx hb dX5_withdraw_0 rfl (lv_at hl 0 rfl) ?_
  refine lv_iload_n hx hb dX5_withdraw_1 rfl (lv_at hl 1 rfl) ?_
  refine lv_iconst (v := 3) hx hb dX5_withdraw_2 (by decide) ?_
  refine lv_iconst (v := (-1)) hx hb dX5_withdraw_3 (by decide) ?_
  refine m_wV 3 [.int (nI i), .int 3, .int (-1)] [] hx hb hml hown hts hK (c_set l E A g M σ th hw i 3 (by omega) (by omega) (-1)) gX5_withdraw_X5_set rfl rfl rfl (by decide +kernel) rfl ⟨Nat.le_of_ble_eq_true rfl, Nat.le_of_ble_eq_true rfl⟩ hM (MW.x hw) rfl rfl hM hl.1 (Nat.le_of_ble_eq_true rfl) ⟨Nat.le_of_ble_eq_true rfl, Nat.le_of_ble_eq_true rfl⟩ rfl dX5_withdraw_4 hS (fun _ _ h => h) (fun _ h => h) (fun H locs hQ hz hk hS => ?_)
  refine W.eq (g2 := F0 m 7 ls []) rfl ?_
  obtain ⟨M, hM, hw⟩ := hQ
  obtain ⟨f1, m1, hf1⟩ := MW.house hw
  obtain ⟨f2, m2, hf2⟩ := MW.joined hw
  obtain ⟨f3, m3, hf3⟩ := MW.spooks hw
  obtain ⟨f4, m4, hf4⟩ := MW.people hw
  obtain ⟨f5, m5, hf5⟩ := MW.numbers hw
  refine lv_aload_n hx hb dX5_withdraw_7 rfl (lv_at hl 0 rfl) ?_
  refine lv_iload_n hx hb dX5_withdraw_8 rfl (lv_at hl 1 rfl) ?_
  refine lv_iconst (v := 4) hx hb dX5_withdraw_9 (by decide) ?_
  refine lv_iconst (v := 0) hx hb dX5_withdraw_10 (by decide) ?_
  refine m_wV 3 [.int (nI i), .int 4, .int 0] [] hx hb hml hown hts hK (c_set l E A g M (uU σ i 3 (-1)) th hw i 4 (by omega) (by omega) 0) gX5_withdraw_X5_set rfl rfl rfl (by decide +kernel) rfl ⟨Nat.le_of_ble_eq_true rfl, Nat.le_of_ble_eq_true rfl⟩ hM (MW.x hw) rfl rfl hM hl.1 (Nat.le_of_ble_eq_true rfl) ⟨Nat.le_of_ble_eq_true rfl, Nat.le_of_ble_eq_true rfl⟩ rfl dX5_withdraw_11 hS (fun _ _ h => h) (fun _ h => h) (fun H locs hQ hz hk hS => ?_)
  refine W.eq (g2 := F0 m 14 ls []) rfl ?_
  obtain ⟨M, hM, hw⟩ := hQ
  obtain ⟨f1, m1, hf1⟩ := MW.house hw
  obtain ⟨f2, m2, hf2⟩ := MW.joined hw
  obtain ⟨f3, m3, hf3⟩ := MW.spooks hw
  obtain ⟨f4, m4, hf4⟩ := MW.people hw
  obtain ⟨f5, m5, hf5⟩ := MW.numbers hw
  exact w_v hx hb hr hlocks dX5_withdraw_14 hS (Nat.le_of_ble_eq_true rfl) (Nat.le_of_ble_eq_true rfl) (⟨_, hM, hw⟩)
theorem in_X5_addRo_X5 : ∀ w ∈ u_ws RX5 TX5 11, w ∈ wsX5_addRo := by decide +kernel
set_option maxHeartbeats 4000000 in
set_option maxRecDepth 100000 in
theorem c_addRo (l : Launch) (E : gE) (A : Nat → Prop) (g : Nat → Nat) (M : gM) (σ : Sg) (th : Int32) (hw : MW E g M σ th) (i k : Nat) (hi : i < 10) (hk : k < 5) (x : Int32) : Met l yX5_addRo wsX5_addRo ({ frames := 0, cells := 0, slots := 0, locals := 0 } : Room) (Pm E [.ref (g 0), .int (nI i), .int (nI k), .int x] (mP E A g M)) (QW none (fun H => ∃ M', mP E A g M' H ∧ MW E g M' (uR σ i k (sRm σ i k + x)) th) A) 0 0 A := by
  refine m_entry (by decide) rfl (Nat.le_of_ble_eq_true rfl) ?_
  intro p e s m args below meth c hx hb hr hml hts hown hlocks hin hM hK ls hl
  have hl : lv_has ls 4 [(0, .ref (g 0)), (1, .int (nI i)), (2, .int (nI k)), (3, .int x)] := hl
  have hown : s.vm.findClass RX5 = some m.cls := hown
  have hS : va_S A s.heap s.heap [] := va_S.rf
  skip
  obtain ⟨f1, m1, hf1⟩ := MW.house hw
  obtain ⟨f2, m2, hf2⟩ := MW.joined hw
  obtain ⟨f3, m3, hf3⟩ := MW.spooks hw
  obtain ⟨f4, m4, hf4⟩ := MW.people hw
  obtain ⟨f5, m5, hf5⟩ := MW.numbers hw
  refine lv_aload_n hx hb dX5_addRo_0 rfl (lv_at hl 0 rfl) ?_
  refine m_get hx hb hts in_X5_addRo_X5 hown hK hM (MW.x hw) rfl 5 (by decide) (by decide +kernel) rfl dX5_addRo_1 ?_
  refine lv_iconst (v := 5) hx hb dX5_addRo_4 (by decide) ?_
  refine lv_iload_n hx hb dX5_addRo_5 rfl (lv_at hl 1 rfl) ?_
  refine lv_imul hx hb dX5_addRo_6 ?_
  refine lv_iload_n hx hb dX5_addRo_7 rfl (lv_at hl 2 rfl) ?_
  refine lv_iadd hx hb dX5_addRo_8 ?_
  rw [show ((5 * (nI i)) + (nI k) : Int32) = nI (5 * i + k) from ix_m 5 i k]
  refine lv_dup2_11 hx hb dX5_addRo_9 rfl rfl ?_
  refine m_iald (v := sRm σ i k) hx hb hK hM m1 (ix_ok (by omega)) (rd_ok (by omega) (hf1 i k hi hk)) dX5_addRo_10 ?_
  refine lv_iload_n hx hb dX5_addRo_11 rfl (lv_at hl 3 rfl) ?_
  refine lv_iadd hx hb dX5_addRo_12 ?_
  refine m_iast hx hb hK hM hS m1 (ix_ok (by omega)) dX5_addRo_13 (fun H locs hM hz hS => ?_)
  obtain ⟨M, hM, hw⟩ : ∃ M', mP E A g M' H ∧ MW E g M' (uR σ i k (sRm σ i k + x)) th := ⟨_, hM, MW.putR (σ2 := uR σ i k (sRm σ i k + x)) hw rfl (fun r c hr hc => upd_up2 (B := 0) hf1 (by omega) hk r c hr hc)⟩
  obtain ⟨f1, m1, hf1⟩ := MW.house hw
  obtain ⟨f2, m2, hf2⟩ := MW.joined hw
  obtain ⟨f3, m3, hf3⟩ := MW.spooks hw
  obtain ⟨f4, m4, hf4⟩ := MW.people hw
  obtain ⟨f5, m5, hf5⟩ := MW.numbers hw
  exact w_v hx hb hr hlocks dX5_addRo_14 hS (Nat.le_of_ble_eq_true rfl) (Nat.le_of_ble_eq_true rfl) (⟨_, hM, hw⟩)
theorem in_X5_thrown_X5 : ∀ w ∈ u_ws RX5 TX5 11, w ∈ wsX5_thrown := by decide +kernel
set_option maxHeartbeats 4000000 in
set_option maxRecDepth 100000 in
theorem c_thrown (l : Launch) (E : gE) (A : Nat → Prop) (g : Nat → Nat) (M : gM) (σ : Sg) (th : Int32) (hw : MW E g M σ th)  : Met l yX5_thrown wsX5_thrown ({ frames := 0, cells := 0, slots := 0, locals := 0 } : Room) (Pm E [.ref (g 0)] (mP E A g M)) (k2_QcV (.int th)) 0 0 (fun _ => False) := by
  refine m_entry (by decide) rfl (Nat.le_of_ble_eq_true rfl) ?_
  intro p e s m args below meth c hx hb hr hml hts hown hlocks hin hM hK ls hl
  have hl : lv_has ls 1 [(0, .ref (g 0))] := hl
  have hown : s.vm.findClass RX5 = some m.cls := hown
  obtain ⟨f1, m1, hf1⟩ := MW.house hw
  obtain ⟨f2, m2, hf2⟩ := MW.joined hw
  obtain ⟨f3, m3, hf3⟩ := MW.spooks hw
  obtain ⟨f4, m4, hf4⟩ := MW.people hw
  obtain ⟨f5, m5, hf5⟩ := MW.numbers hw
  refine lv_aload_n hx hb dX5_thrown_0 rfl (lv_at hl 0 rfl) ?_
  refine m_get hx hb hts in_X5_thrown_X5 hown hK hM (MW.x hw) rfl 0 (by decide) (by decide +kernel) rfl dX5_thrown_1 ?_
  exact r_i hx hb hr hlocks dX5_thrown_4 (by first | rfl | assumption)
theorem c_isInY (l : Launch) (E : gE) (A : Nat → Prop) (g : Nat → Nat) (M : gM) (x lo hi : Int32) (h : lo ≤ x ∧ x ≤ hi) : Met l yX5_isIn wsX5_isIn ({ frames := 0, cells := 0, slots := 0, locals := 0 } : Room) (Pm E [.int x, .int lo, .int hi] (fun _ => True)) (k2_QcV (.int 1)) 0 0 (fun _ => False) := by
  have h9 := c_isIn l E A g M x lo hi
  rwa [decide_eq_true h] at h9
theorem in_X5_at_X5 : ∀ w ∈ u_ws RX5 TX5 11, w ∈ wsX5_at := by decide +kernel
set_option maxHeartbeats 4000000 in
set_option maxRecDepth 100000 in
theorem m_at (l : Launch) (E : gE) (A : Nat → Prop) (g : Nat → Nat) (M : gM) (σ : Sg) (th : Int32) (hv : VS σ) (hw : MW E g M σ th) (i j : Nat) (hi : i < kG σ) (hj : j < 12) : Met l yX5_at wsX5_at ({ frames := 3, cells := 0, slots := 0, locals := 67 } : Room) (Pm E [.ref (g 0), .int (nI i), .int (nI j)] (mP E A g M)) (QW (some (.int (plc σ i j))) (fun H => ∃ M', mP E A g M' H ∧ MW E g M' σ 0) A) 0 0 A := by
  refine m_entry (by decide) rfl (Nat.le_of_ble_eq_true rfl) ?_
  intro p e s m args below meth c hx hb hr hml hts hown hlocks hin hM hK ls hl
  have hl : lv_has ls 3 [(0, .ref (g 0)), (1, .int (nI i)), (2, .int (nI j))] := hl
  have hown : s.vm.findClass RX5 = some m.cls := hown
  have hS : va_S A s.heap s.heap [] := va_S.rf
  skip
  obtain ⟨⟨hR9, hG9, hU9, hD9⟩, -⟩ := id hv
  obtain ⟨f1, m1, hf1⟩ := MW.house hw
  obtain ⟨f2, m2, hf2⟩ := MW.joined hw
  obtain ⟨f3, m3, hf3⟩ := MW.spooks hw
  obtain ⟨f4, m4, hf4⟩ := MW.people hw
  obtain ⟨f5, m5, hf5⟩ := MW.numbers hw
  refine lv_aload_n hx hb dX5_at_0 rfl (lv_at hl 0 rfl) ?_
  refine lv_iconst (v := 0) hx hb dX5_at_1 (by decide) ?_
  refine m_put hx hb hts in_X5_at_X5 tyX5 tyX5_ok nmX5 hown hK hM hS (MW.x hw) rfl 0 (by decide) (by decide +kernel) rfl (tyX5_ok 0 (by decide)) rfl rfl (Nat.le_of_ble_eq_true rfl) dX5_at_2 (fun H locs hM hz hS => ?_)
  obtain ⟨M, hM, hw⟩ : ∃ M', mP E A g M' H ∧ MW E g M' σ 0 := ⟨_, hM, MW.setTh hw _⟩
  obtain ⟨f1, m1, hf1⟩ := MW.house hw
  obtain ⟨f2, m2, hf2⟩ := MW.joined hw
  obtain ⟨f3, m3, hf3⟩ := MW.spooks hw
  obtain ⟨f4, m4, hf4⟩ := MW.people hw
  obtain ⟨f5, m5, hf5⟩ := MW.numbers hw
  refine lv_aload_n hx hb dX5_at_5 rfl (lv_at hl 0 rfl) ?_
  refine lv_iload_n hx hb dX5_at_6 rfl (lv_at hl 1 rfl) ?_
  refine m_cV 1 [.int (nI i)] [] hx hb hml hown hts hK (c_misGhostY l E A g M σ 0 hv hw i (by omega)) gX5_at_X5_isGhost rfl rfl rfl (by decide +kernel) rfl ⟨Nat.le_of_ble_eq_true rfl, Nat.le_of_ble_eq_true rfl⟩ hM (MW.x hw) rfl rfl hM hl.1 (Nat.le_of_ble_eq_true rfl) ⟨Nat.le_of_ble_eq_true rfl, Nat.le_of_ble_eq_true rfl⟩ rfl dX5_at_7 ?_
  refine lv_if_eq (tgt := 32) hx hb dX5_at_10 (by decide) (fun c9 => absurd c9 (by decide)) (fun c9 => ?_)
  refine lv_iload_n hx hb dX5_at_13 rfl (lv_at hl 2 rfl) ?_
  refine lv_iconst (v := 0) hx hb dX5_at_14 (by decide) ?_
  refine lv_bipush (v := 11) hx hb dX5_at_15 (by decide) ?_
  refine m_cS 3 [.int (nI j), .int 0, .int 11] [] hx hb hml hown hts hK (c_isInY l E A g M (nI j) 0 11 (⟨nI_pos' (by omega), nI_le (b := 11) (by omega) (by decide)⟩)) gX5_at_X5_isIn rfl rfl rfl (by decide +kernel) rfl ⟨Nat.le_of_ble_eq_true rfl, Nat.le_of_ble_eq_true rfl⟩ trivial hl.1 (Nat.le_of_ble_eq_true rfl) ⟨Nat.le_of_ble_eq_true rfl, Nat.le_of_ble_eq_true rfl⟩ rfl dX5_at_17 ?_
  refine lv_if_eq (tgt := 32) hx hb dX5_at_20 (by decide) (fun c9 => absurd c9 (by decide)) (fun c9 => ?_)
  refine lv_aload_n hx hb dX5_at_23 rfl (lv_at hl 0 rfl) ?_
  refine lv_iload_n hx hb dX5_at_24 rfl (lv_at hl 1 rfl) ?_
  refine lv_iload_n hx hb dX5_at_25 rfl (lv_at hl 2 rfl) ?_
  refine m_cV 2 [.int (nI i), .int (nI j)] [] hx hb hml hown hts hK (c_mplace l E A g M σ 0 hv hw i j (by omega) (by omega)) gX5_at_X5_place rfl rfl rfl (by decide +kernel) rfl ⟨Nat.le_of_ble_eq_true rfl, Nat.le_of_ble_eq_true rfl⟩ hM (MW.x hw) rfl rfl hM hl.1 (Nat.le_of_ble_eq_true rfl) ⟨Nat.le_of_ble_eq_true rfl, Nat.le_of_ble_eq_true rfl⟩ rfl dX5_at_26 ?_
  refine lv_goto (tgt := 37) hx hb dX5_at_29 (by decide) ?_
  exact w_i hx hb hr hlocks dX5_at_37 hS (Nat.le_of_ble_eq_true rfl) (Nat.le_of_ble_eq_true rfl) (by first | rfl | assumption) (⟨_, hM, hw⟩)
set_option maxHeartbeats 4000000 in
set_option maxRecDepth 100000 in
theorem m_atB (l : Launch) (E : gE) (A : Nat → Prop) (g : Nat → Nat) (M : gM) (σ : Sg) (th : Int32) (hv : VS σ) (hw : MW E g M σ th) (x y : Int32) (hbad : ¬ ((0 ≤ x ∧ x < nI (kG σ)) ∧ (0 ≤ y ∧ y ≤ 11))) : Met l yX5_at wsX5_at ({ frames := 2, cells := 0, slots := 0, locals := 43 } : Room) (Pm E [.ref (g 0), .int x, .int y] (mP E A g M)) (QW (some (.int 0)) (fun H => ∃ M', mP E A g M' H ∧ MW E g M' σ 1) A) 0 0 A := by
  refine m_entry (by decide) rfl (Nat.le_of_ble_eq_true rfl) ?_
  intro p e s m args below meth c hx hb hr hml hts hown hlocks hin hM hK ls hl
  have hl : lv_has ls 3 [(0, .ref (g 0)), (1, .int x), (2, .int y)] := hl
  have hown : s.vm.findClass RX5 = some m.cls := hown
  have hS : va_S A s.heap s.heap [] := va_S.rf
  skip
  obtain ⟨⟨hR9, hG9, hU9, hD9⟩, -⟩ := id hv
  obtain ⟨f1, m1, hf1⟩ := MW.house hw
  obtain ⟨f2, m2, hf2⟩ := MW.joined hw
  obtain ⟨f3, m3, hf3⟩ := MW.spooks hw
  obtain ⟨f4, m4, hf4⟩ := MW.people hw
  obtain ⟨f5, m5, hf5⟩ := MW.numbers hw
  refine lv_aload_n hx hb dX5_at_0 rfl (lv_at hl 0 rfl) ?_
  refine lv_iconst (v := 0) hx hb dX5_at_1 (by decide) ?_
  refine m_put hx hb hts in_X5_at_X5 tyX5 tyX5_ok nmX5 hown hK hM hS (MW.x hw) rfl 0 (by decide) (by decide +kernel) rfl (tyX5_ok 0 (by decide)) rfl rfl (Nat.le_of_ble_eq_true rfl) dX5_at_2 (fun H locs hM hz hS => ?_)
  obtain ⟨M, hM, hw⟩ : ∃ M', mP E A g M' H ∧ MW E g M' σ 0 := ⟨_, hM, MW.setTh hw _⟩
  obtain ⟨f1, m1, hf1⟩ := MW.house hw
  obtain ⟨f2, m2, hf2⟩ := MW.joined hw
  obtain ⟨f3, m3, hf3⟩ := MW.spooks hw
  obtain ⟨f4, m4, hf4⟩ := MW.people hw
  obtain ⟨f5, m5, hf5⟩ := MW.numbers hw
  refine lv_aload_n hx hb dX5_at_5 rfl (lv_at hl 0 rfl) ?_
  refine lv_iload_n hx hb dX5_at_6 rfl (lv_at hl 1 rfl) ?_
  refine m_cV 1 [.int x] [] hx hb hml hown hts hK (c_misGhost l E A g M σ 0 hv hw x) gX5_at_X5_isGhost rfl rfl rfl (by decide +kernel) rfl ⟨Nat.le_of_ble_eq_true rfl, Nat.le_of_ble_eq_true rfl⟩ hM (MW.x hw) rfl rfl hM hl.1 (Nat.le_of_ble_eq_true rfl) ⟨Nat.le_of_ble_eq_true rfl, Nat.le_of_ble_eq_true rfl⟩ rfl dX5_at_7 ?_
  refine lv_if_eq (tgt := 32) hx hb dX5_at_10 (by decide) (fun c10 => ?_) (fun c10 => ?_)
  · have c10 := of_decide_eq_false (bI_f c10)
    refine lv_aload_n hx hb dX5_at_32 rfl (lv_at hl 0 rfl) ?_
    refine lv_iconst (v := 1) hx hb dX5_at_33 (by decide) ?_
    refine m_wV 1 [.int 1] [] hx hb hml hown hts hK (c_fail l E A g M σ 0 hw 1) gX5_at_X5_fail rfl rfl rfl (by decide +kernel) rfl ⟨Nat.le_of_ble_eq_true rfl, Nat.le_of_ble_eq_true rfl⟩ hM (MW.x hw) rfl rfl hM hl.1 (Nat.le_of_ble_eq_true rfl) ⟨Nat.le_of_ble_eq_true rfl, Nat.le_of_ble_eq_true rfl⟩ rfl dX5_at_34 hS (fun _ _ h => h) (fun _ h => h) (fun H locs hQ hz hk hS => ?_)
    refine W.eq (g2 := F0 m 37 ls [.int 0]) rfl ?_
    obtain ⟨M, hM, hw⟩ := hQ
    obtain ⟨f1, m1, hf1⟩ := MW.house hw
    obtain ⟨f2, m2, hf2⟩ := MW.joined hw
    obtain ⟨f3, m3, hf3⟩ := MW.spooks hw
    obtain ⟨f4, m4, hf4⟩ := MW.people hw
    obtain ⟨f5, m5, hf5⟩ := MW.numbers hw
    exact w_i hx hb hr hlocks dX5_at_37 hS (Nat.le_of_ble_eq_true rfl) (Nat.le_of_ble_eq_true rfl) (by first | rfl | assumption) (⟨_, hM, hw⟩)
  · have c10 := of_decide_eq_true (bI_t c10)
    refine lv_iload_n hx hb dX5_at_13 rfl (lv_at hl 2 rfl) ?_
    refine lv_iconst (v := 0) hx hb dX5_at_14 (by decide) ?_
    refine lv_bipush (v := 11) hx hb dX5_at_15 (by decide) ?_
    refine m_cS 3 [.int y, .int 0, .int 11] [] hx hb hml hown hts hK (c_isIn l E A g M y 0 11) gX5_at_X5_isIn rfl rfl rfl (by decide +kernel) rfl ⟨Nat.le_of_ble_eq_true rfl, Nat.le_of_ble_eq_true rfl⟩ trivial hl.1 (Nat.le_of_ble_eq_true rfl) ⟨Nat.le_of_ble_eq_true rfl, Nat.le_of_ble_eq_true rfl⟩ rfl dX5_at_17 ?_
    refine lv_if_eq (tgt := 32) hx hb dX5_at_20 (by decide) (fun c20 => ?_) (fun c9 => absurd ⟨c10, of_decide_eq_true (bI_t c9)⟩ hbad)
    have c20 := of_decide_eq_false (bI_f c20)
    refine lv_aload_n hx hb dX5_at_32 rfl (lv_at hl 0 rfl) ?_
    refine lv_iconst (v := 1) hx hb dX5_at_33 (by decide) ?_
    refine m_wV 1 [.int 1] [] hx hb hml hown hts hK (c_fail l E A g M σ 0 hw 1) gX5_at_X5_fail rfl rfl rfl (by decide +kernel) rfl ⟨Nat.le_of_ble_eq_true rfl, Nat.le_of_ble_eq_true rfl⟩ hM (MW.x hw) rfl rfl hM hl.1 (Nat.le_of_ble_eq_true rfl) ⟨Nat.le_of_ble_eq_true rfl, Nat.le_of_ble_eq_true rfl⟩ rfl dX5_at_34 hS (fun _ _ h => h) (fun _ h => h) (fun H locs hQ hz hk hS => ?_)
    refine W.eq (g2 := F0 m 37 ls [.int 0]) rfl ?_
    obtain ⟨M, hM, hw⟩ := hQ
    obtain ⟨f1, m1, hf1⟩ := MW.house hw
    obtain ⟨f2, m2, hf2⟩ := MW.joined hw
    obtain ⟨f3, m3, hf3⟩ := MW.spooks hw
    obtain ⟨f4, m4, hf4⟩ := MW.people hw
    obtain ⟨f5, m5, hf5⟩ := MW.numbers hw
    exact w_i hx hb hr hlocks dX5_at_37 hS (Nat.le_of_ble_eq_true rfl) (Nat.le_of_ble_eq_true rfl) (by first | rfl | assumption) (⟨_, hM, hw⟩)
theorem in_X5_room_X5 : ∀ w ∈ u_ws RX5 TX5 11, w ∈ wsX5_room := by decide +kernel
set_option maxHeartbeats 4000000 in
set_option maxRecDepth 100000 in
theorem m_room (l : Launch) (E : gE) (A : Nat → Prop) (g : Nat → Nat) (M : gM) (σ : Sg) (th : Int32) (hv : VS σ) (hw : MW E g M σ th) (k w : Nat) (hk : k < kR σ) (hw9 : w < 6) : Met l yX5_room wsX5_room ({ frames := 2, cells := 0, slots := 0, locals := 44 } : Room) (Pm E [.ref (g 0), .int (nI k), .int (nI w)] (mP E A g M)) (QW (some (.int (rmT σ k w))) (fun H => ∃ M', mP E A g M' H ∧ MW E g M' σ 0) A) 0 0 A := by
  refine m_entry (by decide) rfl (Nat.le_of_ble_eq_true rfl) ?_
  intro p e s m args below meth c hx hb hr hml hts hown hlocks hin hM hK ls hl
  have hl : lv_has ls 3 [(0, .ref (g 0)), (1, .int (nI k)), (2, .int (nI w))] := hl
  have hown : s.vm.findClass RX5 = some m.cls := hown
  have hS : va_S A s.heap s.heap [] := va_S.rf
  skip
  obtain ⟨⟨hR9, hG9, hU9, hD9⟩, -⟩ := id hv
  obtain ⟨f1, m1, hf1⟩ := MW.house hw
  obtain ⟨f2, m2, hf2⟩ := MW.joined hw
  obtain ⟨f3, m3, hf3⟩ := MW.spooks hw
  obtain ⟨f4, m4, hf4⟩ := MW.people hw
  obtain ⟨f5, m5, hf5⟩ := MW.numbers hw
  refine lv_aload_n hx hb dX5_room_0 rfl (lv_at hl 0 rfl) ?_
  refine lv_iconst (v := 0) hx hb dX5_room_1 (by decide) ?_
  refine m_put hx hb hts in_X5_room_X5 tyX5 tyX5_ok nmX5 hown hK hM hS (MW.x hw) rfl 0 (by decide) (by decide +kernel) rfl (tyX5_ok 0 (by decide)) rfl rfl (Nat.le_of_ble_eq_true rfl) dX5_room_2 (fun H locs hM hz hS => ?_)
  obtain ⟨M, hM, hw⟩ : ∃ M', mP E A g M' H ∧ MW E g M' σ 0 := ⟨_, hM, MW.setTh hw _⟩
  obtain ⟨f1, m1, hf1⟩ := MW.house hw
  obtain ⟨f2, m2, hf2⟩ := MW.joined hw
  obtain ⟨f3, m3, hf3⟩ := MW.spooks hw
  obtain ⟨f4, m4, hf4⟩ := MW.people hw
  obtain ⟨f5, m5, hf5⟩ := MW.numbers hw
  refine lv_aload_n hx hb dX5_room_5 rfl (lv_at hl 0 rfl) ?_
  refine lv_iload_n hx hb dX5_room_6 rfl (lv_at hl 1 rfl) ?_
  refine m_cV 1 [.int (nI k)] [] hx hb hml hown hts hK (c_misRoomY l E A g M σ 0 hv hw k (by omega)) gX5_room_X5_isRoom rfl rfl rfl (by decide +kernel) rfl ⟨Nat.le_of_ble_eq_true rfl, Nat.le_of_ble_eq_true rfl⟩ hM (MW.x hw) rfl rfl hM hl.1 (Nat.le_of_ble_eq_true rfl) ⟨Nat.le_of_ble_eq_true rfl, Nat.le_of_ble_eq_true rfl⟩ rfl dX5_room_7 ?_
  refine lv_if_eq (tgt := 31) hx hb dX5_room_10 (by decide) (fun c9 => absurd c9 (by decide)) (fun c9 => ?_)
  refine lv_iload_n hx hb dX5_room_13 rfl (lv_at hl 2 rfl) ?_
  refine lv_iconst (v := 0) hx hb dX5_room_14 (by decide) ?_
  refine lv_iconst (v := 5) hx hb dX5_room_15 (by decide) ?_
  refine m_cS 3 [.int (nI w), .int 0, .int 5] [] hx hb hml hown hts hK (c_isInY l E A g M (nI w) 0 5 (⟨nI_pos' (by omega), nI_le (b := 5) (by omega) (by decide)⟩)) gX5_room_X5_isIn rfl rfl rfl (by decide +kernel) rfl ⟨Nat.le_of_ble_eq_true rfl, Nat.le_of_ble_eq_true rfl⟩ trivial hl.1 (Nat.le_of_ble_eq_true rfl) ⟨Nat.le_of_ble_eq_true rfl, Nat.le_of_ble_eq_true rfl⟩ rfl dX5_room_16 ?_
  refine lv_if_eq (tgt := 31) hx hb dX5_room_19 (by decide) (fun c9 => absurd c9 (by decide)) (fun c9 => ?_)
  refine lv_aload_n hx hb dX5_room_22 rfl (lv_at hl 0 rfl) ?_
  refine lv_iload_n hx hb dX5_room_23 rfl (lv_at hl 1 rfl) ?_
  refine lv_iload_n hx hb dX5_room_24 rfl (lv_at hl 2 rfl) ?_
  refine m_cV 2 [.int (nI k), .int (nI w)] [] hx hb hml hown hts hK (c_roomTold l E A g M σ 0 hv hw k w (by omega) (by omega)) gX5_room_X5_roomTold rfl rfl rfl (by decide +kernel) rfl ⟨Nat.le_of_ble_eq_true rfl, Nat.le_of_ble_eq_true rfl⟩ hM (MW.x hw) rfl rfl hM hl.1 (Nat.le_of_ble_eq_true rfl) ⟨Nat.le_of_ble_eq_true rfl, Nat.le_of_ble_eq_true rfl⟩ rfl dX5_room_25 ?_
  refine lv_goto (tgt := 36) hx hb dX5_room_28 (by decide) ?_
  exact w_i hx hb hr hlocks dX5_room_36 hS (Nat.le_of_ble_eq_true rfl) (Nat.le_of_ble_eq_true rfl) (by first | rfl | assumption) (⟨_, hM, hw⟩)
set_option maxHeartbeats 4000000 in
set_option maxRecDepth 100000 in
theorem m_roomB (l : Launch) (E : gE) (A : Nat → Prop) (g : Nat → Nat) (M : gM) (σ : Sg) (th : Int32) (hv : VS σ) (hw : MW E g M σ th) (x y : Int32) (hbad : ¬ ((0 ≤ x ∧ x < nI (kR σ)) ∧ (0 ≤ y ∧ y ≤ 5))) : Met l yX5_room wsX5_room ({ frames := 2, cells := 0, slots := 0, locals := 43 } : Room) (Pm E [.ref (g 0), .int x, .int y] (mP E A g M)) (QW (some (.int 0)) (fun H => ∃ M', mP E A g M' H ∧ MW E g M' σ 1) A) 0 0 A := by
  refine m_entry (by decide) rfl (Nat.le_of_ble_eq_true rfl) ?_
  intro p e s m args below meth c hx hb hr hml hts hown hlocks hin hM hK ls hl
  have hl : lv_has ls 3 [(0, .ref (g 0)), (1, .int x), (2, .int y)] := hl
  have hown : s.vm.findClass RX5 = some m.cls := hown
  have hS : va_S A s.heap s.heap [] := va_S.rf
  skip
  obtain ⟨⟨hR9, hG9, hU9, hD9⟩, -⟩ := id hv
  obtain ⟨f1, m1, hf1⟩ := MW.house hw
  obtain ⟨f2, m2, hf2⟩ := MW.joined hw
  obtain ⟨f3, m3, hf3⟩ := MW.spooks hw
  obtain ⟨f4, m4, hf4⟩ := MW.people hw
  obtain ⟨f5, m5, hf5⟩ := MW.numbers hw
  refine lv_aload_n hx hb dX5_room_0 rfl (lv_at hl 0 rfl) ?_
  refine lv_iconst (v := 0) hx hb dX5_room_1 (by decide) ?_
  refine m_put hx hb hts in_X5_room_X5 tyX5 tyX5_ok nmX5 hown hK hM hS (MW.x hw) rfl 0 (by decide) (by decide +kernel) rfl (tyX5_ok 0 (by decide)) rfl rfl (Nat.le_of_ble_eq_true rfl) dX5_room_2 (fun H locs hM hz hS => ?_)
  obtain ⟨M, hM, hw⟩ : ∃ M', mP E A g M' H ∧ MW E g M' σ 0 := ⟨_, hM, MW.setTh hw _⟩
  obtain ⟨f1, m1, hf1⟩ := MW.house hw
  obtain ⟨f2, m2, hf2⟩ := MW.joined hw
  obtain ⟨f3, m3, hf3⟩ := MW.spooks hw
  obtain ⟨f4, m4, hf4⟩ := MW.people hw
  obtain ⟨f5, m5, hf5⟩ := MW.numbers hw
  refine lv_aload_n hx hb dX5_room_5 rfl (lv_at hl 0 rfl) ?_
  refine lv_iload_n hx hb dX5_room_6 rfl (lv_at hl 1 rfl) ?_
  refine m_cV 1 [.int x] [] hx hb hml hown hts hK (c_misRoom l E A g M σ 0 hv hw x) gX5_room_X5_isRoom rfl rfl rfl (by decide +kernel) rfl ⟨Nat.le_of_ble_eq_true rfl, Nat.le_of_ble_eq_true rfl⟩ hM (MW.x hw) rfl rfl hM hl.1 (Nat.le_of_ble_eq_true rfl) ⟨Nat.le_of_ble_eq_true rfl, Nat.le_of_ble_eq_true rfl⟩ rfl dX5_room_7 ?_
  refine lv_if_eq (tgt := 31) hx hb dX5_room_10 (by decide) (fun c10 => ?_) (fun c10 => ?_)
  · have c10 := of_decide_eq_false (bI_f c10)
    refine lv_aload_n hx hb dX5_room_31 rfl (lv_at hl 0 rfl) ?_
    refine lv_iconst (v := 1) hx hb dX5_room_32 (by decide) ?_
    refine m_wV 1 [.int 1] [] hx hb hml hown hts hK (c_fail l E A g M σ 0 hw 1) gX5_room_X5_fail rfl rfl rfl (by decide +kernel) rfl ⟨Nat.le_of_ble_eq_true rfl, Nat.le_of_ble_eq_true rfl⟩ hM (MW.x hw) rfl rfl hM hl.1 (Nat.le_of_ble_eq_true rfl) ⟨Nat.le_of_ble_eq_true rfl, Nat.le_of_ble_eq_true rfl⟩ rfl dX5_room_33 hS (fun _ _ h => h) (fun _ h => h) (fun H locs hQ hz hk hS => ?_)
    refine W.eq (g2 := F0 m 36 ls [.int 0]) rfl ?_
    obtain ⟨M, hM, hw⟩ := hQ
    obtain ⟨f1, m1, hf1⟩ := MW.house hw
    obtain ⟨f2, m2, hf2⟩ := MW.joined hw
    obtain ⟨f3, m3, hf3⟩ := MW.spooks hw
    obtain ⟨f4, m4, hf4⟩ := MW.people hw
    obtain ⟨f5, m5, hf5⟩ := MW.numbers hw
    exact w_i hx hb hr hlocks dX5_room_36 hS (Nat.le_of_ble_eq_true rfl) (Nat.le_of_ble_eq_true rfl) (by first | rfl | assumption) (⟨_, hM, hw⟩)
  · have c10 := of_decide_eq_true (bI_t c10)
    refine lv_iload_n hx hb dX5_room_13 rfl (lv_at hl 2 rfl) ?_
    refine lv_iconst (v := 0) hx hb dX5_room_14 (by decide) ?_
    refine lv_iconst (v := 5) hx hb dX5_room_15 (by decide) ?_
    refine m_cS 3 [.int y, .int 0, .int 5] [] hx hb hml hown hts hK (c_isIn l E A g M y 0 5) gX5_room_X5_isIn rfl rfl rfl (by decide +kernel) rfl ⟨Nat.le_of_ble_eq_true rfl, Nat.le_of_ble_eq_true rfl⟩ trivial hl.1 (Nat.le_of_ble_eq_true rfl) ⟨Nat.le_of_ble_eq_true rfl, Nat.le_of_ble_eq_true rfl⟩ rfl dX5_room_16 ?_
    refine lv_if_eq (tgt := 31) hx hb dX5_room_19 (by decide) (fun c19 => ?_) (fun c9 => absurd ⟨c10, of_decide_eq_true (bI_t c9)⟩ hbad)
    have c19 := of_decide_eq_false (bI_f c19)
    refine lv_aload_n hx hb dX5_room_31 rfl (lv_at hl 0 rfl) ?_
    refine lv_iconst (v := 1) hx hb dX5_room_32 (by decide) ?_
    refine m_wV 1 [.int 1] [] hx hb hml hown hts hK (c_fail l E A g M σ 0 hw 1) gX5_room_X5_fail rfl rfl rfl (by decide +kernel) rfl ⟨Nat.le_of_ble_eq_true rfl, Nat.le_of_ble_eq_true rfl⟩ hM (MW.x hw) rfl rfl hM hl.1 (Nat.le_of_ble_eq_true rfl) ⟨Nat.le_of_ble_eq_true rfl, Nat.le_of_ble_eq_true rfl⟩ rfl dX5_room_33 hS (fun _ _ h => h) (fun _ h => h) (fun H locs hQ hz hk hS => ?_)
    refine W.eq (g2 := F0 m 36 ls [.int 0]) rfl ?_
    obtain ⟨M, hM, hw⟩ := hQ
    obtain ⟨f1, m1, hf1⟩ := MW.house hw
    obtain ⟨f2, m2, hf2⟩ := MW.joined hw
    obtain ⟨f3, m3, hf3⟩ := MW.spooks hw
    obtain ⟨f4, m4, hf4⟩ := MW.people hw
    obtain ⟨f5, m5, hf5⟩ := MW.numbers hw
    exact w_i hx hb hr hlocks dX5_room_36 hS (Nat.le_of_ble_eq_true rfl) (Nat.le_of_ble_eq_true rfl) (by first | rfl | assumption) (⟨_, hM, hw⟩)
theorem in_X5_guest_X5 : ∀ w ∈ u_ws RX5 TX5 11, w ∈ wsX5_guest := by decide +kernel
set_option maxHeartbeats 4000000 in
set_option maxRecDepth 100000 in
theorem m_guest (l : Launch) (E : gE) (A : Nat → Prop) (g : Nat → Nat) (M : gM) (σ : Sg) (th : Int32) (hv : VS σ) (hw : MW E g M σ th) (k w : Nat) (hk : k < kU σ) (hw9 : w < 7) : Met l yX5_guest wsX5_guest ({ frames := 2, cells := 0, slots := 0, locals := 43 } : Room) (Pm E [.ref (g 0), .int (nI k), .int (nI w)] (mP E A g M)) (QW (some (.int (sGu σ k w))) (fun H => ∃ M', mP E A g M' H ∧ MW E g M' σ 0) A) 0 0 A := by
  refine m_entry (by decide) rfl (Nat.le_of_ble_eq_true rfl) ?_
  intro p e s m args below meth c hx hb hr hml hts hown hlocks hin hM hK ls hl
  have hl : lv_has ls 3 [(0, .ref (g 0)), (1, .int (nI k)), (2, .int (nI w))] := hl
  have hown : s.vm.findClass RX5 = some m.cls := hown
  have hS : va_S A s.heap s.heap [] := va_S.rf
  skip
  obtain ⟨⟨hR9, hG9, hU9, hD9⟩, -⟩ := id hv
  obtain ⟨f1, m1, hf1⟩ := MW.house hw
  obtain ⟨f2, m2, hf2⟩ := MW.joined hw
  obtain ⟨f3, m3, hf3⟩ := MW.spooks hw
  obtain ⟨f4, m4, hf4⟩ := MW.people hw
  obtain ⟨f5, m5, hf5⟩ := MW.numbers hw
  refine lv_aload_n hx hb dX5_guest_0 rfl (lv_at hl 0 rfl) ?_
  refine lv_iconst (v := 0) hx hb dX5_guest_1 (by decide) ?_
  refine m_put hx hb hts in_X5_guest_X5 tyX5 tyX5_ok nmX5 hown hK hM hS (MW.x hw) rfl 0 (by decide) (by decide +kernel) rfl (tyX5_ok 0 (by decide)) rfl rfl (Nat.le_of_ble_eq_true rfl) dX5_guest_2 (fun H locs hM hz hS => ?_)
  obtain ⟨M, hM, hw⟩ : ∃ M', mP E A g M' H ∧ MW E g M' σ 0 := ⟨_, hM, MW.setTh hw _⟩
  obtain ⟨f1, m1, hf1⟩ := MW.house hw
  obtain ⟨f2, m2, hf2⟩ := MW.joined hw
  obtain ⟨f3, m3, hf3⟩ := MW.spooks hw
  obtain ⟨f4, m4, hf4⟩ := MW.people hw
  obtain ⟨f5, m5, hf5⟩ := MW.numbers hw
  refine lv_aload_n hx hb dX5_guest_5 rfl (lv_at hl 0 rfl) ?_
  refine lv_iload_n hx hb dX5_guest_6 rfl (lv_at hl 1 rfl) ?_
  refine m_cV 1 [.int (nI k)] [] hx hb hml hown hts hK (c_misGuestY l E A g M σ 0 hv hw k (by omega)) gX5_guest_X5_isGuest rfl rfl rfl (by decide +kernel) rfl ⟨Nat.le_of_ble_eq_true rfl, Nat.le_of_ble_eq_true rfl⟩ hM (MW.x hw) rfl rfl hM hl.1 (Nat.le_of_ble_eq_true rfl) ⟨Nat.le_of_ble_eq_true rfl, Nat.le_of_ble_eq_true rfl⟩ rfl dX5_guest_7 ?_
  refine lv_if_eq (tgt := 32) hx hb dX5_guest_10 (by decide) (fun c9 => absurd c9 (by decide)) (fun c9 => ?_)
  refine lv_iload_n hx hb dX5_guest_13 rfl (lv_at hl 2 rfl) ?_
  refine lv_iconst (v := 0) hx hb dX5_guest_14 (by decide) ?_
  refine lv_bipush (v := 6) hx hb dX5_guest_15 (by decide) ?_
  refine m_cS 3 [.int (nI w), .int 0, .int 6] [] hx hb hml hown hts hK (c_isInY l E A g M (nI w) 0 6 (⟨nI_pos' (by omega), nI_le (b := 6) (by omega) (by decide)⟩)) gX5_guest_X5_isIn rfl rfl rfl (by decide +kernel) rfl ⟨Nat.le_of_ble_eq_true rfl, Nat.le_of_ble_eq_true rfl⟩ trivial hl.1 (Nat.le_of_ble_eq_true rfl) ⟨Nat.le_of_ble_eq_true rfl, Nat.le_of_ble_eq_true rfl⟩ rfl dX5_guest_17 ?_
  refine lv_if_eq (tgt := 32) hx hb dX5_guest_20 (by decide) (fun c9 => absurd c9 (by decide)) (fun c9 => ?_)
  refine lv_aload_n hx hb dX5_guest_23 rfl (lv_at hl 0 rfl) ?_
  refine lv_iload_n hx hb dX5_guest_24 rfl (lv_at hl 1 rfl) ?_
  refine lv_iload_n hx hb dX5_guest_25 rfl (lv_at hl 2 rfl) ?_
  refine m_cV 2 [.int (nI k), .int (nI w)] [] hx hb hml hown hts hK (c_pe l E A g M σ 0 hw k w (by omega) (by omega)) gX5_guest_X5_pe rfl rfl rfl (by decide +kernel) rfl ⟨Nat.le_of_ble_eq_true rfl, Nat.le_of_ble_eq_true rfl⟩ hM (MW.x hw) rfl rfl hM hl.1 (Nat.le_of_ble_eq_true rfl) ⟨Nat.le_of_ble_eq_true rfl, Nat.le_of_ble_eq_true rfl⟩ rfl dX5_guest_26 ?_
  refine lv_goto (tgt := 37) hx hb dX5_guest_29 (by decide) ?_
  exact w_i hx hb hr hlocks dX5_guest_37 hS (Nat.le_of_ble_eq_true rfl) (Nat.le_of_ble_eq_true rfl) (by first | rfl | assumption) (⟨_, hM, hw⟩)
set_option maxHeartbeats 4000000 in
set_option maxRecDepth 100000 in
theorem m_guestB (l : Launch) (E : gE) (A : Nat → Prop) (g : Nat → Nat) (M : gM) (σ : Sg) (th : Int32) (hv : VS σ) (hw : MW E g M σ th) (x y : Int32) (hbad : ¬ ((0 ≤ x ∧ x < nI (kU σ)) ∧ (0 ≤ y ∧ y ≤ 6))) : Met l yX5_guest wsX5_guest ({ frames := 2, cells := 0, slots := 0, locals := 43 } : Room) (Pm E [.ref (g 0), .int x, .int y] (mP E A g M)) (QW (some (.int 0)) (fun H => ∃ M', mP E A g M' H ∧ MW E g M' σ 1) A) 0 0 A := by
  refine m_entry (by decide) rfl (Nat.le_of_ble_eq_true rfl) ?_
  intro p e s m args below meth c hx hb hr hml hts hown hlocks hin hM hK ls hl
  have hl : lv_has ls 3 [(0, .ref (g 0)), (1, .int x), (2, .int y)] := hl
  have hown : s.vm.findClass RX5 = some m.cls := hown
  have hS : va_S A s.heap s.heap [] := va_S.rf
  skip
  obtain ⟨⟨hR9, hG9, hU9, hD9⟩, -⟩ := id hv
  obtain ⟨f1, m1, hf1⟩ := MW.house hw
  obtain ⟨f2, m2, hf2⟩ := MW.joined hw
  obtain ⟨f3, m3, hf3⟩ := MW.spooks hw
  obtain ⟨f4, m4, hf4⟩ := MW.people hw
  obtain ⟨f5, m5, hf5⟩ := MW.numbers hw
  refine lv_aload_n hx hb dX5_guest_0 rfl (lv_at hl 0 rfl) ?_
  refine lv_iconst (v := 0) hx hb dX5_guest_1 (by decide) ?_
  refine m_put hx hb hts in_X5_guest_X5 tyX5 tyX5_ok nmX5 hown hK hM hS (MW.x hw) rfl 0 (by decide) (by decide +kernel) rfl (tyX5_ok 0 (by decide)) rfl rfl (Nat.le_of_ble_eq_true rfl) dX5_guest_2 (fun H locs hM hz hS => ?_)
  obtain ⟨M, hM, hw⟩ : ∃ M', mP E A g M' H ∧ MW E g M' σ 0 := ⟨_, hM, MW.setTh hw _⟩
  obtain ⟨f1, m1, hf1⟩ := MW.house hw
  obtain ⟨f2, m2, hf2⟩ := MW.joined hw
  obtain ⟨f3, m3, hf3⟩ := MW.spooks hw
  obtain ⟨f4, m4, hf4⟩ := MW.people hw
  obtain ⟨f5, m5, hf5⟩ := MW.numbers hw
  refine lv_aload_n hx hb dX5_guest_5 rfl (lv_at hl 0 rfl) ?_
  refine lv_iload_n hx hb dX5_guest_6 rfl (lv_at hl 1 rfl) ?_
  refine m_cV 1 [.int x] [] hx hb hml hown hts hK (c_misGuest l E A g M σ 0 hv hw x) gX5_guest_X5_isGuest rfl rfl rfl (by decide +kernel) rfl ⟨Nat.le_of_ble_eq_true rfl, Nat.le_of_ble_eq_true rfl⟩ hM (MW.x hw) rfl rfl hM hl.1 (Nat.le_of_ble_eq_true rfl) ⟨Nat.le_of_ble_eq_true rfl, Nat.le_of_ble_eq_true rfl⟩ rfl dX5_guest_7 ?_
  refine lv_if_eq (tgt := 32) hx hb dX5_guest_10 (by decide) (fun c10 => ?_) (fun c10 => ?_)
  · have c10 := of_decide_eq_false (bI_f c10)
    refine lv_aload_n hx hb dX5_guest_32 rfl (lv_at hl 0 rfl) ?_
    refine lv_iconst (v := 1) hx hb dX5_guest_33 (by decide) ?_
    refine m_wV 1 [.int 1] [] hx hb hml hown hts hK (c_fail l E A g M σ 0 hw 1) gX5_guest_X5_fail rfl rfl rfl (by decide +kernel) rfl ⟨Nat.le_of_ble_eq_true rfl, Nat.le_of_ble_eq_true rfl⟩ hM (MW.x hw) rfl rfl hM hl.1 (Nat.le_of_ble_eq_true rfl) ⟨Nat.le_of_ble_eq_true rfl, Nat.le_of_ble_eq_true rfl⟩ rfl dX5_guest_34 hS (fun _ _ h => h) (fun _ h => h) (fun H locs hQ hz hk hS => ?_)
    refine W.eq (g2 := F0 m 37 ls [.int 0]) rfl ?_
    obtain ⟨M, hM, hw⟩ := hQ
    obtain ⟨f1, m1, hf1⟩ := MW.house hw
    obtain ⟨f2, m2, hf2⟩ := MW.joined hw
    obtain ⟨f3, m3, hf3⟩ := MW.spooks hw
    obtain ⟨f4, m4, hf4⟩ := MW.people hw
    obtain ⟨f5, m5, hf5⟩ := MW.numbers hw
    exact w_i hx hb hr hlocks dX5_guest_37 hS (Nat.le_of_ble_eq_true rfl) (Nat.le_of_ble_eq_true rfl) (by first | rfl | assumption) (⟨_, hM, hw⟩)
  · have c10 := of_decide_eq_true (bI_t c10)
    refine lv_iload_n hx hb dX5_guest_13 rfl (lv_at hl 2 rfl) ?_
    refine lv_iconst (v := 0) hx hb dX5_guest_14 (by decide) ?_
    refine lv_bipush (v := 6) hx hb dX5_guest_15 (by decide) ?_
    refine m_cS 3 [.int y, .int 0, .int 6] [] hx hb hml hown hts hK (c_isIn l E A g M y 0 6) gX5_guest_X5_isIn rfl rfl rfl (by decide +kernel) rfl ⟨Nat.le_of_ble_eq_true rfl, Nat.le_of_ble_eq_true rfl⟩ trivial hl.1 (Nat.le_of_ble_eq_true rfl) ⟨Nat.le_of_ble_eq_true rfl, Nat.le_of_ble_eq_true rfl⟩ rfl dX5_guest_17 ?_
    refine lv_if_eq (tgt := 32) hx hb dX5_guest_20 (by decide) (fun c20 => ?_) (fun c9 => absurd ⟨c10, of_decide_eq_true (bI_t c9)⟩ hbad)
    have c20 := of_decide_eq_false (bI_f c20)
    refine lv_aload_n hx hb dX5_guest_32 rfl (lv_at hl 0 rfl) ?_
    refine lv_iconst (v := 1) hx hb dX5_guest_33 (by decide) ?_
    refine m_wV 1 [.int 1] [] hx hb hml hown hts hK (c_fail l E A g M σ 0 hw 1) gX5_guest_X5_fail rfl rfl rfl (by decide +kernel) rfl ⟨Nat.le_of_ble_eq_true rfl, Nat.le_of_ble_eq_true rfl⟩ hM (MW.x hw) rfl rfl hM hl.1 (Nat.le_of_ble_eq_true rfl) ⟨Nat.le_of_ble_eq_true rfl, Nat.le_of_ble_eq_true rfl⟩ rfl dX5_guest_34 hS (fun _ _ h => h) (fun _ h => h) (fun H locs hQ hz hk hS => ?_)
    refine W.eq (g2 := F0 m 37 ls [.int 0]) rfl ?_
    obtain ⟨M, hM, hw⟩ := hQ
    obtain ⟨f1, m1, hf1⟩ := MW.house hw
    obtain ⟨f2, m2, hf2⟩ := MW.joined hw
    obtain ⟨f3, m3, hf3⟩ := MW.spooks hw
    obtain ⟨f4, m4, hf4⟩ := MW.people hw
    obtain ⟨f5, m5, hf5⟩ := MW.numbers hw
    exact w_i hx hb hr hlocks dX5_guest_37 hS (Nat.le_of_ble_eq_true rfl) (Nat.le_of_ble_eq_true rfl) (by first | rfl | assumption) (⟨_, hM, hw⟩)
theorem in_X5_wins_X5 : ∀ w ∈ u_ws RX5 TX5 11, w ∈ wsX5_wins := by decide +kernel
set_option maxHeartbeats 4000000 in
set_option maxRecDepth 100000 in
theorem m_wins (l : Launch) (E : gE) (A : Nat → Prop) (g : Nat → Nat) (M : gM) (σ : Sg) (th : Int32) (hv : VS σ) (hw : MW E g M σ th) (k w : Nat) (hk : k < kR σ) (hw9 : w < 3) : Met l yX5_wins wsX5_wins ({ frames := 6, cells := 0, slots := 0, locals := 137 } : Room) (Pm E [.ref (g 0), .int (nI k), .int (nI w)] (mP E A g M)) (QW (some (.int (wnT σ k w))) (fun H => ∃ M', mP E A g M' H ∧ MW E g M' σ 0) A) 0 0 A := by
  refine m_entry (by decide) rfl (Nat.le_of_ble_eq_true rfl) ?_
  intro p e s m args below meth c hx hb hr hml hts hown hlocks hin hM hK ls hl
  have hl : lv_has ls 3 [(0, .ref (g 0)), (1, .int (nI k)), (2, .int (nI w))] := hl
  have hown : s.vm.findClass RX5 = some m.cls := hown
  have hS : va_S A s.heap s.heap [] := va_S.rf
  skip
  obtain ⟨⟨hR9, hG9, hU9, hD9⟩, -⟩ := id hv
  obtain ⟨f1, m1, hf1⟩ := MW.house hw
  obtain ⟨f2, m2, hf2⟩ := MW.joined hw
  obtain ⟨f3, m3, hf3⟩ := MW.spooks hw
  obtain ⟨f4, m4, hf4⟩ := MW.people hw
  obtain ⟨f5, m5, hf5⟩ := MW.numbers hw
  refine lv_aload_n hx hb dX5_wins_0 rfl (lv_at hl 0 rfl) ?_
  refine lv_iconst (v := 0) hx hb dX5_wins_1 (by decide) ?_
  refine m_put hx hb hts in_X5_wins_X5 tyX5 tyX5_ok nmX5 hown hK hM hS (MW.x hw) rfl 0 (by decide) (by decide +kernel) rfl (tyX5_ok 0 (by decide)) rfl rfl (Nat.le_of_ble_eq_true rfl) dX5_wins_2 (fun H locs hM hz hS => ?_)
  obtain ⟨M, hM, hw⟩ : ∃ M', mP E A g M' H ∧ MW E g M' σ 0 := ⟨_, hM, MW.setTh hw _⟩
  obtain ⟨f1, m1, hf1⟩ := MW.house hw
  obtain ⟨f2, m2, hf2⟩ := MW.joined hw
  obtain ⟨f3, m3, hf3⟩ := MW.spooks hw
  obtain ⟨f4, m4, hf4⟩ := MW.people hw
  obtain ⟨f5, m5, hf5⟩ := MW.numbers hw
  refine lv_aload_n hx hb dX5_wins_5 rfl (lv_at hl 0 rfl) ?_
  refine lv_iload_n hx hb dX5_wins_6 rfl (lv_at hl 1 rfl) ?_
  refine m_cV 1 [.int (nI k)] [] hx hb hml hown hts hK (c_misRoomY l E A g M σ 0 hv hw k (by omega)) gX5_wins_X5_isRoom rfl rfl rfl (by decide +kernel) rfl ⟨Nat.le_of_ble_eq_true rfl, Nat.le_of_ble_eq_true rfl⟩ hM (MW.x hw) rfl rfl hM hl.1 (Nat.le_of_ble_eq_true rfl) ⟨Nat.le_of_ble_eq_true rfl, Nat.le_of_ble_eq_true rfl⟩ rfl dX5_wins_7 ?_
  refine lv_if_eq (tgt := 31) hx hb dX5_wins_10 (by decide) (fun c9 => absurd c9 (by decide)) (fun c9 => ?_)
  refine lv_iload_n hx hb dX5_wins_13 rfl (lv_at hl 2 rfl) ?_
  refine lv_iconst (v := 0) hx hb dX5_wins_14 (by decide) ?_
  refine lv_iconst (v := 2) hx hb dX5_wins_15 (by decide) ?_
  refine m_cS 3 [.int (nI w), .int 0, .int 2] [] hx hb hml hown hts hK (c_isInY l E A g M (nI w) 0 2 (⟨nI_pos' (by omega), nI_le (b := 2) (by omega) (by decide)⟩)) gX5_wins_X5_isIn rfl rfl rfl (by decide +kernel) rfl ⟨Nat.le_of_ble_eq_true rfl, Nat.le_of_ble_eq_true rfl⟩ trivial hl.1 (Nat.le_of_ble_eq_true rfl) ⟨Nat.le_of_ble_eq_true rfl, Nat.le_of_ble_eq_true rfl⟩ rfl dX5_wins_16 ?_
  refine lv_if_eq (tgt := 31) hx hb dX5_wins_19 (by decide) (fun c9 => absurd c9 (by decide)) (fun c9 => ?_)
  refine lv_aload_n hx hb dX5_wins_22 rfl (lv_at hl 0 rfl) ?_
  refine lv_iload_n hx hb dX5_wins_23 rfl (lv_at hl 1 rfl) ?_
  refine lv_iload_n hx hb dX5_wins_24 rfl (lv_at hl 2 rfl) ?_
  refine m_cV 2 [.int (nI k), .int (nI w)] [] hx hb hml hown hts hK (c_won l E A g M σ 0 hv hw k w (by omega) (by omega)) gX5_wins_X5_won rfl rfl rfl (by decide +kernel) rfl ⟨Nat.le_of_ble_eq_true rfl, Nat.le_of_ble_eq_true rfl⟩ hM (MW.x hw) rfl rfl hM hl.1 (Nat.le_of_ble_eq_true rfl) ⟨Nat.le_of_ble_eq_true rfl, Nat.le_of_ble_eq_true rfl⟩ rfl dX5_wins_25 ?_
  refine lv_goto (tgt := 36) hx hb dX5_wins_28 (by decide) ?_
  exact w_i hx hb hr hlocks dX5_wins_36 hS (Nat.le_of_ble_eq_true rfl) (Nat.le_of_ble_eq_true rfl) (by first | rfl | assumption) (⟨_, hM, hw⟩)
set_option maxHeartbeats 4000000 in
set_option maxRecDepth 100000 in
theorem m_winsB (l : Launch) (E : gE) (A : Nat → Prop) (g : Nat → Nat) (M : gM) (σ : Sg) (th : Int32) (hv : VS σ) (hw : MW E g M σ th) (x y : Int32) (hbad : ¬ ((0 ≤ x ∧ x < nI (kR σ)) ∧ (0 ≤ y ∧ y ≤ 2))) : Met l yX5_wins wsX5_wins ({ frames := 2, cells := 0, slots := 0, locals := 43 } : Room) (Pm E [.ref (g 0), .int x, .int y] (mP E A g M)) (QW (some (.int 0)) (fun H => ∃ M', mP E A g M' H ∧ MW E g M' σ 1) A) 0 0 A := by
  refine m_entry (by decide) rfl (Nat.le_of_ble_eq_true rfl) ?_
  intro p e s m args below meth c hx hb hr hml hts hown hlocks hin hM hK ls hl
  have hl : lv_has ls 3 [(0, .ref (g 0)), (1, .int x), (2, .int y)] := hl
  have hown : s.vm.findClass RX5 = some m.cls := hown
  have hS : va_S A s.heap s.heap [] := va_S.rf
  skip
  obtain ⟨⟨hR9, hG9, hU9, hD9⟩, -⟩ := id hv
  obtain ⟨f1, m1, hf1⟩ := MW.house hw
  obtain ⟨f2, m2, hf2⟩ := MW.joined hw
  obtain ⟨f3, m3, hf3⟩ := MW.spooks hw
  obtain ⟨f4, m4, hf4⟩ := MW.people hw
  obtain ⟨f5, m5, hf5⟩ := MW.numbers hw
  refine lv_aload_n hx hb dX5_wins_0 rfl (lv_at hl 0 rfl) ?_
  refine lv_iconst (v := 0) hx hb dX5_wins_1 (by decide) ?_
  refine m_put hx hb hts in_X5_wins_X5 tyX5 tyX5_ok nmX5 hown hK hM hS (MW.x hw) rfl 0 (by decide) (by decide +kernel) rfl (tyX5_ok 0 (by decide)) rfl rfl (Nat.le_of_ble_eq_true rfl) dX5_wins_2 (fun H locs hM hz hS => ?_)
  obtain ⟨M, hM, hw⟩ : ∃ M', mP E A g M' H ∧ MW E g M' σ 0 := ⟨_, hM, MW.setTh hw _⟩
  obtain ⟨f1, m1, hf1⟩ := MW.house hw
  obtain ⟨f2, m2, hf2⟩ := MW.joined hw
  obtain ⟨f3, m3, hf3⟩ := MW.spooks hw
  obtain ⟨f4, m4, hf4⟩ := MW.people hw
  obtain ⟨f5, m5, hf5⟩ := MW.numbers hw
  refine lv_aload_n hx hb dX5_wins_5 rfl (lv_at hl 0 rfl) ?_
  refine lv_iload_n hx hb dX5_wins_6 rfl (lv_at hl 1 rfl) ?_
  refine m_cV 1 [.int x] [] hx hb hml hown hts hK (c_misRoom l E A g M σ 0 hv hw x) gX5_wins_X5_isRoom rfl rfl rfl (by decide +kernel) rfl ⟨Nat.le_of_ble_eq_true rfl, Nat.le_of_ble_eq_true rfl⟩ hM (MW.x hw) rfl rfl hM hl.1 (Nat.le_of_ble_eq_true rfl) ⟨Nat.le_of_ble_eq_true rfl, Nat.le_of_ble_eq_true rfl⟩ rfl dX5_wins_7 ?_
  refine lv_if_eq (tgt := 31) hx hb dX5_wins_10 (by decide) (fun c10 => ?_) (fun c10 => ?_)
  · have c10 := of_decide_eq_false (bI_f c10)
    refine lv_aload_n hx hb dX5_wins_31 rfl (lv_at hl 0 rfl) ?_
    refine lv_iconst (v := 1) hx hb dX5_wins_32 (by decide) ?_
    refine m_wV 1 [.int 1] [] hx hb hml hown hts hK (c_fail l E A g M σ 0 hw 1) gX5_wins_X5_fail rfl rfl rfl (by decide +kernel) rfl ⟨Nat.le_of_ble_eq_true rfl, Nat.le_of_ble_eq_true rfl⟩ hM (MW.x hw) rfl rfl hM hl.1 (Nat.le_of_ble_eq_true rfl) ⟨Nat.le_of_ble_eq_true rfl, Nat.le_of_ble_eq_true rfl⟩ rfl dX5_wins_33 hS (fun _ _ h => h) (fun _ h => h) (fun H locs hQ hz hk hS => ?_)
    refine W.eq (g2 := F0 m 36 ls [.int 0]) rfl ?_
    obtain ⟨M, hM, hw⟩ := hQ
    obtain ⟨f1, m1, hf1⟩ := MW.house hw
    obtain ⟨f2, m2, hf2⟩ := MW.joined hw
    obtain ⟨f3, m3, hf3⟩ := MW.spooks hw
    obtain ⟨f4, m4, hf4⟩ := MW.people hw
    obtain ⟨f5, m5, hf5⟩ := MW.numbers hw
    exact w_i hx hb hr hlocks dX5_wins_36 hS (Nat.le_of_ble_eq_true rfl) (Nat.le_of_ble_eq_true rfl) (by first | rfl | assumption) (⟨_, hM, hw⟩)
  · have c10 := of_decide_eq_true (bI_t c10)
    refine lv_iload_n hx hb dX5_wins_13 rfl (lv_at hl 2 rfl) ?_
    refine lv_iconst (v := 0) hx hb dX5_wins_14 (by decide) ?_
    refine lv_iconst (v := 2) hx hb dX5_wins_15 (by decide) ?_
    refine m_cS 3 [.int y, .int 0, .int 2] [] hx hb hml hown hts hK (c_isIn l E A g M y 0 2) gX5_wins_X5_isIn rfl rfl rfl (by decide +kernel) rfl ⟨Nat.le_of_ble_eq_true rfl, Nat.le_of_ble_eq_true rfl⟩ trivial hl.1 (Nat.le_of_ble_eq_true rfl) ⟨Nat.le_of_ble_eq_true rfl, Nat.le_of_ble_eq_true rfl⟩ rfl dX5_wins_16 ?_
    refine lv_if_eq (tgt := 31) hx hb dX5_wins_19 (by decide) (fun c19 => ?_) (fun c9 => absurd ⟨c10, of_decide_eq_true (bI_t c9)⟩ hbad)
    have c19 := of_decide_eq_false (bI_f c19)
    refine lv_aload_n hx hb dX5_wins_31 rfl (lv_at hl 0 rfl) ?_
    refine lv_iconst (v := 1) hx hb dX5_wins_32 (by decide) ?_
    refine m_wV 1 [.int 1] [] hx hb hml hown hts hK (c_fail l E A g M σ 0 hw 1) gX5_wins_X5_fail rfl rfl rfl (by decide +kernel) rfl ⟨Nat.le_of_ble_eq_true rfl, Nat.le_of_ble_eq_true rfl⟩ hM (MW.x hw) rfl rfl hM hl.1 (Nat.le_of_ble_eq_true rfl) ⟨Nat.le_of_ble_eq_true rfl, Nat.le_of_ble_eq_true rfl⟩ rfl dX5_wins_33 hS (fun _ _ h => h) (fun _ h => h) (fun H locs hQ hz hk hS => ?_)
    refine W.eq (g2 := F0 m 36 ls [.int 0]) rfl ?_
    obtain ⟨M, hM, hw⟩ := hQ
    obtain ⟨f1, m1, hf1⟩ := MW.house hw
    obtain ⟨f2, m2, hf2⟩ := MW.joined hw
    obtain ⟨f3, m3, hf3⟩ := MW.spooks hw
    obtain ⟨f4, m4, hf4⟩ := MW.people hw
    obtain ⟨f5, m5, hf5⟩ := MW.numbers hw
    exact w_i hx hb hr hlocks dX5_wins_36 hS (Nat.le_of_ble_eq_true rfl) (Nat.le_of_ble_eq_true rfl) (by first | rfl | assumption) (⟨_, hM, hw⟩)
theorem in_X5_count_X5 : ∀ w ∈ u_ws RX5 TX5 11, w ∈ wsX5_count := by decide +kernel
set_option maxHeartbeats 4000000 in
set_option maxRecDepth 100000 in
theorem m_count (l : Launch) (E : gE) (A : Nat → Prop) (g : Nat → Nat) (M : gM) (σ : Sg) (th : Int32) (hv : VS σ) (hw : MW E g M σ th) (w : Nat) (hw9 : w < 9) : Met l yX5_count wsX5_count ({ frames := 5, cells := 0, slots := 0, locals := 112 } : Room) (Pm E [.ref (g 0), .int (nI w)] (mP E A g M)) (QW (some (.int (ctT σ w))) (fun H => ∃ M', mP E A g M' H ∧ MW E g M' σ 0) A) 0 0 A := by
  refine m_entry (by decide) rfl (Nat.le_of_ble_eq_true rfl) ?_
  intro p e s m args below meth c hx hb hr hml hts hown hlocks hin hM hK ls hl
  have hl : lv_has ls 2 [(0, .ref (g 0)), (1, .int (nI w))] := hl
  have hown : s.vm.findClass RX5 = some m.cls := hown
  have hS : va_S A s.heap s.heap [] := va_S.rf
  skip
  obtain ⟨⟨hR9, hG9, hU9, hD9⟩, -⟩ := id hv
  obtain ⟨f1, m1, hf1⟩ := MW.house hw
  obtain ⟨f2, m2, hf2⟩ := MW.joined hw
  obtain ⟨f3, m3, hf3⟩ := MW.spooks hw
  obtain ⟨f4, m4, hf4⟩ := MW.people hw
  obtain ⟨f5, m5, hf5⟩ := MW.numbers hw
  refine lv_aload_n hx hb dX5_count_0 rfl (lv_at hl 0 rfl) ?_
  refine lv_iconst (v := 0) hx hb dX5_count_1 (by decide) ?_
  refine m_put hx hb hts in_X5_count_X5 tyX5 tyX5_ok nmX5 hown hK hM hS (MW.x hw) rfl 0 (by decide) (by decide +kernel) rfl (tyX5_ok 0 (by decide)) rfl rfl (Nat.le_of_ble_eq_true rfl) dX5_count_2 (fun H locs hM hz hS => ?_)
  obtain ⟨M, hM, hw⟩ : ∃ M', mP E A g M' H ∧ MW E g M' σ 0 := ⟨_, hM, MW.setTh hw _⟩
  obtain ⟨f1, m1, hf1⟩ := MW.house hw
  obtain ⟨f2, m2, hf2⟩ := MW.joined hw
  obtain ⟨f3, m3, hf3⟩ := MW.spooks hw
  obtain ⟨f4, m4, hf4⟩ := MW.people hw
  obtain ⟨f5, m5, hf5⟩ := MW.numbers hw
  refine lv_iload_n hx hb dX5_count_5 rfl (lv_at hl 1 rfl) ?_
  refine lv_iconst (v := 0) hx hb dX5_count_6 (by decide) ?_
  refine lv_bipush (v := 8) hx hb dX5_count_7 (by decide) ?_
  refine m_cS 3 [.int (nI w), .int 0, .int 8] [] hx hb hml hown hts hK (c_isInY l E A g M (nI w) 0 8 (⟨nI_pos' (by omega), nI_le (b := 8) (by omega) (by decide)⟩)) gX5_count_X5_isIn rfl rfl rfl (by decide +kernel) rfl ⟨Nat.le_of_ble_eq_true rfl, Nat.le_of_ble_eq_true rfl⟩ trivial hl.1 (Nat.le_of_ble_eq_true rfl) ⟨Nat.le_of_ble_eq_true rfl, Nat.le_of_ble_eq_true rfl⟩ rfl dX5_count_9 ?_
  refine lv_if_eq (tgt := 23) hx hb dX5_count_12 (by decide) (fun c9 => absurd c9 (by decide)) (fun c9 => ?_)
  refine lv_aload_n hx hb dX5_count_15 rfl (lv_at hl 0 rfl) ?_
  refine lv_iload_n hx hb dX5_count_16 rfl (lv_at hl 1 rfl) ?_
  refine m_cV 1 [.int (nI w)] [] hx hb hml hown hts hK (c_counted l E A g M σ 0 hv hw w (by omega)) gX5_count_X5_counted rfl rfl rfl (by decide +kernel) rfl ⟨Nat.le_of_ble_eq_true rfl, Nat.le_of_ble_eq_true rfl⟩ hM (MW.x hw) rfl rfl hM hl.1 (Nat.le_of_ble_eq_true rfl) ⟨Nat.le_of_ble_eq_true rfl, Nat.le_of_ble_eq_true rfl⟩ rfl dX5_count_17 ?_
  refine lv_goto (tgt := 28) hx hb dX5_count_20 (by decide) ?_
  exact w_i hx hb hr hlocks dX5_count_28 hS (Nat.le_of_ble_eq_true rfl) (Nat.le_of_ble_eq_true rfl) (by first | rfl | assumption) (⟨_, hM, hw⟩)
set_option maxHeartbeats 4000000 in
set_option maxRecDepth 100000 in
theorem m_countB (l : Launch) (E : gE) (A : Nat → Prop) (g : Nat → Nat) (M : gM) (σ : Sg) (th : Int32) (hv : VS σ) (hw : MW E g M σ th) (x : Int32) (hbad : ¬ (0 ≤ x ∧ x ≤ 8)) : Met l yX5_count wsX5_count ({ frames := 1, cells := 0, slots := 0, locals := 22 } : Room) (Pm E [.ref (g 0), .int x] (mP E A g M)) (QW (some (.int 0)) (fun H => ∃ M', mP E A g M' H ∧ MW E g M' σ 1) A) 0 0 A := by
  refine m_entry (by decide) rfl (Nat.le_of_ble_eq_true rfl) ?_
  intro p e s m args below meth c hx hb hr hml hts hown hlocks hin hM hK ls hl
  have hl : lv_has ls 2 [(0, .ref (g 0)), (1, .int x)] := hl
  have hown : s.vm.findClass RX5 = some m.cls := hown
  have hS : va_S A s.heap s.heap [] := va_S.rf
  skip
  obtain ⟨⟨hR9, hG9, hU9, hD9⟩, -⟩ := id hv
  obtain ⟨f1, m1, hf1⟩ := MW.house hw
  obtain ⟨f2, m2, hf2⟩ := MW.joined hw
  obtain ⟨f3, m3, hf3⟩ := MW.spooks hw
  obtain ⟨f4, m4, hf4⟩ := MW.people hw
  obtain ⟨f5, m5, hf5⟩ := MW.numbers hw
  refine lv_aload_n hx hb dX5_count_0 rfl (lv_at hl 0 rfl) ?_
  refine lv_iconst (v := 0) hx hb dX5_count_1 (by decide) ?_
  refine m_put hx hb hts in_X5_count_X5 tyX5 tyX5_ok nmX5 hown hK hM hS (MW.x hw) rfl 0 (by decide) (by decide +kernel) rfl (tyX5_ok 0 (by decide)) rfl rfl (Nat.le_of_ble_eq_true rfl) dX5_count_2 (fun H locs hM hz hS => ?_)
  obtain ⟨M, hM, hw⟩ : ∃ M', mP E A g M' H ∧ MW E g M' σ 0 := ⟨_, hM, MW.setTh hw _⟩
  obtain ⟨f1, m1, hf1⟩ := MW.house hw
  obtain ⟨f2, m2, hf2⟩ := MW.joined hw
  obtain ⟨f3, m3, hf3⟩ := MW.spooks hw
  obtain ⟨f4, m4, hf4⟩ := MW.people hw
  obtain ⟨f5, m5, hf5⟩ := MW.numbers hw
  refine lv_iload_n hx hb dX5_count_5 rfl (lv_at hl 1 rfl) ?_
  refine lv_iconst (v := 0) hx hb dX5_count_6 (by decide) ?_
  refine lv_bipush (v := 8) hx hb dX5_count_7 (by decide) ?_
  refine m_cS 3 [.int x, .int 0, .int 8] [] hx hb hml hown hts hK (c_isIn l E A g M x 0 8) gX5_count_X5_isIn rfl rfl rfl (by decide +kernel) rfl ⟨Nat.le_of_ble_eq_true rfl, Nat.le_of_ble_eq_true rfl⟩ trivial hl.1 (Nat.le_of_ble_eq_true rfl) ⟨Nat.le_of_ble_eq_true rfl, Nat.le_of_ble_eq_true rfl⟩ rfl dX5_count_9 ?_
  refine lv_if_eq (tgt := 23) hx hb dX5_count_12 (by decide) (fun c12 => ?_) (fun c9 => absurd (of_decide_eq_true (bI_t c9)) hbad)
  have c12 := of_decide_eq_false (bI_f c12)
  refine lv_aload_n hx hb dX5_count_23 rfl (lv_at hl 0 rfl) ?_
  refine lv_iconst (v := 1) hx hb dX5_count_24 (by decide) ?_
  refine m_wV 1 [.int 1] [] hx hb hml hown hts hK (c_fail l E A g M σ 0 hw 1) gX5_count_X5_fail rfl rfl rfl (by decide +kernel) rfl ⟨Nat.le_of_ble_eq_true rfl, Nat.le_of_ble_eq_true rfl⟩ hM (MW.x hw) rfl rfl hM hl.1 (Nat.le_of_ble_eq_true rfl) ⟨Nat.le_of_ble_eq_true rfl, Nat.le_of_ble_eq_true rfl⟩ rfl dX5_count_25 hS (fun _ _ h => h) (fun _ h => h) (fun H locs hQ hz hk hS => ?_)
  refine W.eq (g2 := F0 m 28 ls [.int 0]) rfl ?_
  obtain ⟨M, hM, hw⟩ := hQ
  obtain ⟨f1, m1, hf1⟩ := MW.house hw
  obtain ⟨f2, m2, hf2⟩ := MW.joined hw
  obtain ⟨f3, m3, hf3⟩ := MW.spooks hw
  obtain ⟨f4, m4, hf4⟩ := MW.people hw
  obtain ⟨f5, m5, hf5⟩ := MW.numbers hw
  exact w_i hx hb hr hlocks dX5_count_28 hS (Nat.le_of_ble_eq_true rfl) (Nat.le_of_ble_eq_true rfl) (by first | rfl | assumption) (⟨_, hM, hw⟩)
theorem in_X5_scares_X5 : ∀ w ∈ u_ws RX5 TX5 11, w ∈ wsX5_scares := by decide +kernel
set_option maxHeartbeats 4000000 in
set_option maxRecDepth 100000 in
theorem m_scares (l : Launch) (E : gE) (A : Nat → Prop) (g : Nat → Nat) (M : gM) (σ : Sg) (th : Int32) (hv : VS σ) (hw : MW E g M σ th) (i : Nat) (hi : i < kG σ) : Met l yX5_scares wsX5_scares ({ frames := 6, cells := 0, slots := 0, locals := 136 } : Room) (Pm E [.ref (g 0), .int (nI i)] (mP E A g M)) (QW (some (.int (bkA σ (-1) (kR σ) - bkA σ (nI i) (kR σ)))) (fun H => ∃ M', mP E A g M' H ∧ MW E g M' σ 0) A) 0 0 A := by
  refine m_entry (by decide) rfl (Nat.le_of_ble_eq_true rfl) ?_
  intro p e s m args below meth c hx hb hr hml hts hown hlocks hin hM hK ls hl
  have hl : lv_has ls 2 [(0, .ref (g 0)), (1, .int (nI i))] := hl
  have hown : s.vm.findClass RX5 = some m.cls := hown
  have hS : va_S A s.heap s.heap [] := va_S.rf
  skip
  obtain ⟨⟨hR9, hG9, hU9, hD9⟩, -⟩ := id hv
  obtain ⟨f1, m1, hf1⟩ := MW.house hw
  obtain ⟨f2, m2, hf2⟩ := MW.joined hw
  obtain ⟨f3, m3, hf3⟩ := MW.spooks hw
  obtain ⟨f4, m4, hf4⟩ := MW.people hw
  obtain ⟨f5, m5, hf5⟩ := MW.numbers hw
  refine lv_aload_n hx hb dX5_scares_0 rfl (lv_at hl 0 rfl) ?_
  refine lv_iconst (v := 0) hx hb dX5_scares_1 (by decide) ?_
  refine m_put hx hb hts in_X5_scares_X5 tyX5 tyX5_ok nmX5 hown hK hM hS (MW.x hw) rfl 0 (by decide) (by decide +kernel) rfl (tyX5_ok 0 (by decide)) rfl rfl (Nat.le_of_ble_eq_true rfl) dX5_scares_2 (fun H locs hM hz hS => ?_)
  obtain ⟨M, hM, hw⟩ : ∃ M', mP E A g M' H ∧ MW E g M' σ 0 := ⟨_, hM, MW.setTh hw _⟩
  obtain ⟨f1, m1, hf1⟩ := MW.house hw
  obtain ⟨f2, m2, hf2⟩ := MW.joined hw
  obtain ⟨f3, m3, hf3⟩ := MW.spooks hw
  obtain ⟨f4, m4, hf4⟩ := MW.people hw
  obtain ⟨f5, m5, hf5⟩ := MW.numbers hw
  refine lv_aload_n hx hb dX5_scares_5 rfl (lv_at hl 0 rfl) ?_
  refine lv_iload_n hx hb dX5_scares_6 rfl (lv_at hl 1 rfl) ?_
  refine m_cV 1 [.int (nI i)] [] hx hb hml hown hts hK (c_misGhostY l E A g M σ 0 hv hw i (by omega)) gX5_scares_X5_isGhost rfl rfl rfl (by decide +kernel) rfl ⟨Nat.le_of_ble_eq_true rfl, Nat.le_of_ble_eq_true rfl⟩ hM (MW.x hw) rfl rfl hM hl.1 (Nat.le_of_ble_eq_true rfl) ⟨Nat.le_of_ble_eq_true rfl, Nat.le_of_ble_eq_true rfl⟩ rfl dX5_scares_7 ?_
  refine lv_if_eq (tgt := 27) hx hb dX5_scares_10 (by decide) (fun c9 => absurd c9 (by decide)) (fun c9 => ?_)
  refine lv_aload_n hx hb dX5_scares_13 rfl (lv_at hl 0 rfl) ?_
  refine lv_iconst (v := (-1)) hx hb dX5_scares_14 (by decide) ?_
  refine m_cV 1 [.int (-1)] [] hx hb hml hown hts hK (c_givenBack l E A g M σ 0 hv hw (-1)) gX5_scares_X5_givenBack rfl rfl rfl (by decide +kernel) rfl ⟨Nat.le_of_ble_eq_true rfl, Nat.le_of_ble_eq_true rfl⟩ hM (MW.x hw) rfl rfl hM hl.1 (Nat.le_of_ble_eq_true rfl) ⟨Nat.le_of_ble_eq_true rfl, Nat.le_of_ble_eq_true rfl⟩ rfl dX5_scares_15 ?_
  refine lv_aload_n hx hb dX5_scares_18 rfl (lv_at hl 0 rfl) ?_
  refine lv_iload_n hx hb dX5_scares_19 rfl (lv_at hl 1 rfl) ?_
  refine m_cV 1 [.int (nI i)] [.int (bkA σ (-1) (kR σ))] hx hb hml hown hts hK (c_givenBack l E A g M σ 0 hv hw (nI i)) gX5_scares_X5_givenBack rfl rfl rfl (by decide +kernel) rfl ⟨Nat.le_of_ble_eq_true rfl, Nat.le_of_ble_eq_true rfl⟩ hM (MW.x hw) rfl rfl hM hl.1 (Nat.le_of_ble_eq_true rfl) ⟨Nat.le_of_ble_eq_true rfl, Nat.le_of_ble_eq_true rfl⟩ rfl dX5_scares_20 ?_
  refine lv_isub hx hb dX5_scares_23 ?_
  refine lv_goto (tgt := 32) hx hb dX5_scares_24 (by decide) ?_
  exact w_i hx hb hr hlocks dX5_scares_32 hS (Nat.le_of_ble_eq_true rfl) (Nat.le_of_ble_eq_true rfl) (by first | rfl | assumption) (⟨_, hM, hw⟩)
set_option maxHeartbeats 4000000 in
set_option maxRecDepth 100000 in
theorem m_scaresB (l : Launch) (E : gE) (A : Nat → Prop) (g : Nat → Nat) (M : gM) (σ : Sg) (th : Int32) (hv : VS σ) (hw : MW E g M σ th) (x : Int32) (hbad : ¬ (0 ≤ x ∧ x < nI (kG σ))) : Met l yX5_scares wsX5_scares ({ frames := 2, cells := 0, slots := 0, locals := 43 } : Room) (Pm E [.ref (g 0), .int x] (mP E A g M)) (QW (some (.int 0)) (fun H => ∃ M', mP E A g M' H ∧ MW E g M' σ 1) A) 0 0 A := by
  refine m_entry (by decide) rfl (Nat.le_of_ble_eq_true rfl) ?_
  intro p e s m args below meth c hx hb hr hml hts hown hlocks hin hM hK ls hl
  have hl : lv_has ls 2 [(0, .ref (g 0)), (1, .int x)] := hl
  have hown : s.vm.findClass RX5 = some m.cls := hown
  have hS : va_S A s.heap s.heap [] := va_S.rf
  skip
  obtain ⟨⟨hR9, hG9, hU9, hD9⟩, -⟩ := id hv
  obtain ⟨f1, m1, hf1⟩ := MW.house hw
  obtain ⟨f2, m2, hf2⟩ := MW.joined hw
  obtain ⟨f3, m3, hf3⟩ := MW.spooks hw
  obtain ⟨f4, m4, hf4⟩ := MW.people hw
  obtain ⟨f5, m5, hf5⟩ := MW.numbers hw
  refine lv_aload_n hx hb dX5_scares_0 rfl (lv_at hl 0 rfl) ?_
  refine lv_iconst (v := 0) hx hb dX5_scares_1 (by decide) ?_
  refine m_put hx hb hts in_X5_scares_X5 tyX5 tyX5_ok nmX5 hown hK hM hS (MW.x hw) rfl 0 (by decide) (by decide +kernel) rfl (tyX5_ok 0 (by decide)) rfl rfl (Nat.le_of_ble_eq_true rfl) dX5_scares_2 (fun H locs hM hz hS => ?_)
  obtain ⟨M, hM, hw⟩ : ∃ M', mP E A g M' H ∧ MW E g M' σ 0 := ⟨_, hM, MW.setTh hw _⟩
  obtain ⟨f1, m1, hf1⟩ := MW.house hw
  obtain ⟨f2, m2, hf2⟩ := MW.joined hw
  obtain ⟨f3, m3, hf3⟩ := MW.spooks hw
  obtain ⟨f4, m4, hf4⟩ := MW.people hw
  obtain ⟨f5, m5, hf5⟩ := MW.numbers hw
  refine lv_aload_n hx hb dX5_scares_5 rfl (lv_at hl 0 rfl) ?_
  refine lv_iload_n hx hb dX5_scares_6 rfl (lv_at hl 1 rfl) ?_
  refine m_cV 1 [.int x] [] hx hb hml hown hts hK (c_misGhost l E A g M σ 0 hv hw x) gX5_scares_X5_isGhost rfl rfl rfl (by decide +kernel) rfl ⟨Nat.le_of_ble_eq_true rfl, Nat.le_of_ble_eq_true rfl⟩ hM (MW.x hw) rfl rfl hM hl.1 (Nat.le_of_ble_eq_true rfl) ⟨Nat.le_of_ble_eq_true rfl, Nat.le_of_ble_eq_true rfl⟩ rfl dX5_scares_7 ?_
  refine lv_if_eq (tgt := 27) hx hb dX5_scares_10 (by decide) (fun c10 => ?_) (fun c9 => absurd (of_decide_eq_true (bI_t c9)) hbad)
  have c10 := of_decide_eq_false (bI_f c10)
  refine lv_aload_n hx hb dX5_scares_27 rfl (lv_at hl 0 rfl) ?_
  refine lv_iconst (v := 1) hx hb dX5_scares_28 (by decide) ?_
  refine m_wV 1 [.int 1] [] hx hb hml hown hts hK (c_fail l E A g M σ 0 hw 1) gX5_scares_X5_fail rfl rfl rfl (by decide +kernel) rfl ⟨Nat.le_of_ble_eq_true rfl, Nat.le_of_ble_eq_true rfl⟩ hM (MW.x hw) rfl rfl hM hl.1 (Nat.le_of_ble_eq_true rfl) ⟨Nat.le_of_ble_eq_true rfl, Nat.le_of_ble_eq_true rfl⟩ rfl dX5_scares_29 hS (fun _ _ h => h) (fun _ h => h) (fun H locs hQ hz hk hS => ?_)
  refine W.eq (g2 := F0 m 32 ls [.int 0]) rfl ?_
  obtain ⟨M, hM, hw⟩ := hQ
  obtain ⟨f1, m1, hf1⟩ := MW.house hw
  obtain ⟨f2, m2, hf2⟩ := MW.joined hw
  obtain ⟨f3, m3, hf3⟩ := MW.spooks hw
  obtain ⟨f4, m4, hf4⟩ := MW.people hw
  obtain ⟨f5, m5, hf5⟩ := MW.numbers hw
  exact w_i hx hb hr hlocks dX5_scares_32 hS (Nat.le_of_ble_eq_true rfl) (Nat.le_of_ble_eq_true rfl) (by first | rfl | assumption) (⟨_, hM, hw⟩)
theorem in_X5_haunting_X5 : ∀ w ∈ u_ws RX5 TX5 11, w ∈ wsX5_haunting := by decide +kernel
set_option maxHeartbeats 4000000 in
set_option maxRecDepth 100000 in
theorem m_haunting1 (l : Launch) (E : gE) (A : Nat → Prop) (g : Nat → Nat) (M : gM) (σ : Sg) (th : Int32) (hv : VS σ) (hw : MW E g M σ th) (k : Nat) (hk : k < kR σ) : Met l yX5_haunting wsX5_haunting ({ frames := 4, cells := 0, slots := 0, locals := 92 } : Room) (Pm E [.ref (g 0), .int (nI k), .int (-1)] (mP E A g M)) (QW (some (.int (hON σ (nI k) (-1) 12))) (fun H => ∃ M', mP E A g M' H ∧ MW E g M' σ 0) A) 0 0 A := by
  refine m_entry (by decide) rfl (Nat.le_of_ble_eq_true rfl) ?_
  intro p e s m args below meth c hx hb hr hml hts hown hlocks hin hM hK ls hl
  have hl : lv_has ls 5 [(0, .ref (g 0)), (1, .int (nI k)), (2, .int (-1))] := hl
  have hown : s.vm.findClass RX5 = some m.cls := hown
  have hS : va_S A s.heap s.heap [] := va_S.rf
  skip
  obtain ⟨⟨hR9, hG9, hU9, hD9⟩, -⟩ := id hv
  obtain ⟨f1, m1, hf1⟩ := MW.house hw
  obtain ⟨f2, m2, hf2⟩ := MW.joined hw
  obtain ⟨f3, m3, hf3⟩ := MW.spooks hw
  obtain ⟨f4, m4, hf4⟩ := MW.people hw
  obtain ⟨f5, m5, hf5⟩ := MW.numbers hw
  refine lv_aload_n hx hb dX5_haunting_0 rfl (lv_at hl 0 rfl) ?_
  refine lv_iconst (v := 0) hx hb dX5_haunting_1 (by decide) ?_
  refine m_put hx hb hts in_X5_haunting_X5 tyX5 tyX5_ok nmX5 hown hK hM hS (MW.x hw) rfl 0 (by decide) (by decide +kernel) rfl (tyX5_ok 0 (by decide)) rfl rfl (Nat.le_of_ble_eq_true rfl) dX5_haunting_2 (fun H locs hM hz hS => ?_)
  obtain ⟨M, hM, hw⟩ : ∃ M', mP E A g M' H ∧ MW E g M' σ 0 := ⟨_, hM, MW.setTh hw _⟩
  obtain ⟨f1, m1, hf1⟩ := MW.house hw
  obtain ⟨f2, m2, hf2⟩ := MW.joined hw
  obtain ⟨f3, m3, hf3⟩ := MW.spooks hw
  obtain ⟨f4, m4, hf4⟩ := MW.people hw
  obtain ⟨f5, m5, hf5⟩ := MW.numbers hw
  refine lv_aload_n hx hb dX5_haunting_5 rfl (lv_at hl 0 rfl) ?_
  refine lv_iload_n hx hb dX5_haunting_6 rfl (lv_at hl 1 rfl) ?_
  refine m_cV 1 [.int (nI k)] [] hx hb hml hown hts hK (c_misRoomY l E A g M σ 0 hv hw k (by omega)) gX5_haunting_X5_isRoom rfl rfl rfl (by decide +kernel) rfl ⟨Nat.le_of_ble_eq_true rfl, Nat.le_of_ble_eq_true rfl⟩ hM (MW.x hw) rfl rfl hM hl.1 (Nat.le_of_ble_eq_true rfl) ⟨Nat.le_of_ble_eq_true rfl, Nat.le_of_ble_eq_true rfl⟩ rfl dX5_haunting_7 ?_
  refine lv_if_eq (tgt := 23) hx hb dX5_haunting_10 (by decide) (fun c9 => absurd c9 (by decide)) (fun c9 => ?_)
  refine lv_iload_n hx hb dX5_haunting_13 rfl (lv_at hl 2 rfl) ?_
  refine lv_iconst (v := (-1)) hx hb dX5_haunting_14 (by decide) ?_
  refine lv_bipush (v := 11) hx hb dX5_haunting_15 (by decide) ?_
  refine m_cS 3 [.int (-1), .int (-1), .int 11] [] hx hb hml hown hts hK (c_isInY l E A g M (-1) (-1) 11 (by decide)) gX5_haunting_X5_isIn rfl rfl rfl (by decide +kernel) rfl ⟨Nat.le_of_ble_eq_true rfl, Nat.le_of_ble_eq_true rfl⟩ trivial hl.1 (Nat.le_of_ble_eq_true rfl) ⟨Nat.le_of_ble_eq_true rfl, Nat.le_of_ble_eq_true rfl⟩ rfl dX5_haunting_17 ?_
  refine lv_if_ne (tgt := 29) hx hb dX5_haunting_20 (by decide) (fun c9 => ?_) (fun c9 => absurd c9 (by decide))
  refine lv_iload_n hx hb dX5_haunting_29 rfl (lv_at hl 2 rfl) ?_
  refine lv_if_ge (tgt := 40) hx hb dX5_haunting_30 (by decide) (fun c9 => absurd c9 (by decide)) (fun c9 => ?_)
  refine lv_aload_n hx hb dX5_haunting_33 rfl (lv_at hl 0 rfl) ?_
  refine lv_iload_n hx hb dX5_haunting_34 rfl (lv_at hl 1 rfl) ?_
  refine lv_iconst (v := (-1)) hx hb dX5_haunting_35 (by decide) ?_
  refine m_cV 2 [.int (nI k), .int (-1)] [] hx hb hml hown hts hK (c_haunted l E A g M σ 0 hv hw (nI k) (-1)) gX5_haunting_X5_haunted rfl rfl rfl (by decide +kernel) rfl ⟨Nat.le_of_ble_eq_true rfl, Nat.le_of_ble_eq_true rfl⟩ hM (MW.x hw) rfl rfl hM hl.1 (Nat.le_of_ble_eq_true rfl) ⟨Nat.le_of_ble_eq_true rfl, Nat.le_of_ble_eq_true rfl⟩ rfl dX5_haunting_36 ?_
  exact w_i hx hb hr hlocks dX5_haunting_39 hS (Nat.le_of_ble_eq_true rfl) (Nat.le_of_ble_eq_true rfl) (by first | rfl | assumption) (⟨_, hM, hw⟩)
theorem hIH_m1 (σ : Sg) (r : Int32) (h i : Nat) (hi : i < 2 ^ 31) : hIH σ r h (-1) (i + 1) = hIH σ r h (-1) i + (if plc σ i h = r then sGh σ i 1 else 0) := by
  rw [hIH_step, if_neg (nI_ne1 hi)]
set_option maxHeartbeats 4000000 in
set_option maxRecDepth 100000 in
theorem m_haunting2 (l : Launch) (E : gE) (A : Nat → Prop) (g : Nat → Nat) (M : gM) (σ : Sg) (th : Int32) (hv : VS σ) (hw : MW E g M σ th) (k j : Nat) (hk : k < kR σ) (hj : j < 12) : Met l yX5_haunting wsX5_haunting ({ frames := 3, cells := 0, slots := 0, locals := 67 } : Room) (Pm E [.ref (g 0), .int (nI k), .int (nI j)] (mP E A g M)) (QW (some (.int (hIH σ (nI k) j (-1) (kG σ)))) (fun H => ∃ M', mP E A g M' H ∧ MW E g M' σ 0) A) 0 0 A := by
  refine m_entry (by decide) rfl (Nat.le_of_ble_eq_true rfl) ?_
  intro p e s m args below meth c hx hb hr hml hts hown hlocks hin hM hK ls hl
  have hl : lv_has ls 5 [(0, .ref (g 0)), (1, .int (nI k)), (2, .int (nI j))] := hl
  have hown : s.vm.findClass RX5 = some m.cls := hown
  have hS : va_S A s.heap s.heap [] := va_S.rf
  skip
  obtain ⟨⟨hR9, hG9, hU9, hD9⟩, -⟩ := id hv
  obtain ⟨f1, m1, hf1⟩ := MW.house hw
  obtain ⟨f2, m2, hf2⟩ := MW.joined hw
  obtain ⟨f3, m3, hf3⟩ := MW.spooks hw
  obtain ⟨f4, m4, hf4⟩ := MW.people hw
  obtain ⟨f5, m5, hf5⟩ := MW.numbers hw
  refine lv_aload_n hx hb dX5_haunting_0 rfl (lv_at hl 0 rfl) ?_
  refine lv_iconst (v := 0) hx hb dX5_haunting_1 (by decide) ?_
  refine m_put hx hb hts in_X5_haunting_X5 tyX5 tyX5_ok nmX5 hown hK hM hS (MW.x hw) rfl 0 (by decide) (by decide +kernel) rfl (tyX5_ok 0 (by decide)) rfl rfl (Nat.le_of_ble_eq_true rfl) dX5_haunting_2 (fun H locs hM hz hS => ?_)
  obtain ⟨M, hM, hw⟩ : ∃ M', mP E A g M' H ∧ MW E g M' σ 0 := ⟨_, hM, MW.setTh hw _⟩
  obtain ⟨f1, m1, hf1⟩ := MW.house hw
  obtain ⟨f2, m2, hf2⟩ := MW.joined hw
  obtain ⟨f3, m3, hf3⟩ := MW.spooks hw
  obtain ⟨f4, m4, hf4⟩ := MW.people hw
  obtain ⟨f5, m5, hf5⟩ := MW.numbers hw
  refine lv_aload_n hx hb dX5_haunting_5 rfl (lv_at hl 0 rfl) ?_
  refine lv_iload_n hx hb dX5_haunting_6 rfl (lv_at hl 1 rfl) ?_
  refine m_cV 1 [.int (nI k)] [] hx hb hml hown hts hK (c_misRoomY l E A g M σ 0 hv hw k (by omega)) gX5_haunting_X5_isRoom rfl rfl rfl (by decide +kernel) rfl ⟨Nat.le_of_ble_eq_true rfl, Nat.le_of_ble_eq_true rfl⟩ hM (MW.x hw) rfl rfl hM hl.1 (Nat.le_of_ble_eq_true rfl) ⟨Nat.le_of_ble_eq_true rfl, Nat.le_of_ble_eq_true rfl⟩ rfl dX5_haunting_7 ?_
  refine lv_if_eq (tgt := 23) hx hb dX5_haunting_10 (by decide) (fun c9 => absurd c9 (by decide)) (fun c9 => ?_)
  refine lv_iload_n hx hb dX5_haunting_13 rfl (lv_at hl 2 rfl) ?_
  refine lv_iconst (v := (-1)) hx hb dX5_haunting_14 (by decide) ?_
  refine lv_bipush (v := 11) hx hb dX5_haunting_15 (by decide) ?_
  refine m_cS 3 [.int (nI j), .int (-1), .int 11] [] hx hb hml hown hts hK (c_isInY l E A g M (nI j) (-1) 11 (⟨Int32.le_trans (by decide) (nI_pos' (by omega)), nI_le (b := 11) (by omega) (by decide)⟩)) gX5_haunting_X5_isIn rfl rfl rfl (by decide +kernel) rfl ⟨Nat.le_of_ble_eq_true rfl, Nat.le_of_ble_eq_true rfl⟩ trivial hl.1 (Nat.le_of_ble_eq_true rfl) ⟨Nat.le_of_ble_eq_true rfl, Nat.le_of_ble_eq_true rfl⟩ rfl dX5_haunting_17 ?_
  refine lv_if_ne (tgt := 29) hx hb dX5_haunting_20 (by decide) (fun c9 => ?_) (fun c9 => absurd c9 (by decide))
  refine lv_iload_n hx hb dX5_haunting_29 rfl (lv_at hl 2 rfl) ?_
  refine lv_if_ge (tgt := 40) hx hb dX5_haunting_30 (by decide) (fun c30 => ?_) (fun c9 => absurd (nI_pos' (by omega)) c9)
  refine lv_iconst (v := 0) hx hb dX5_haunting_40 (by decide) ?_
  refine lv_istore_n (lv' := [(3, .int 0), (0, .ref (g 0)), (1, .int (nI k)), (2, .int (nI j))]) hx hb dX5_haunting_41 rfl hl (by decide) rfl (fun ls hl => ?_)
  refine lv_iconst (v := 0) hx hb dX5_haunting_42 (by decide) ?_
  refine lv_istore (lv' := [(4, .int 0), (3, .int 0), (0, .ref (g 0)), (1, .int (nI k)), (2, .int (nI j))]) hx hb dX5_haunting_43 hl (by decide) rfl (fun ls hl => ?_)
  have lp45 : ∀ (n45 i : Nat), n45 + i = kG σ → ∀ (H : Heap) (locs : List Loc) (M : gM), (mP E A g M H ∧ MW E g M σ 0) → va_S A s.heap H locs → ∀ x3 : Int32, x3 = hIH σ (nI k) j (-1) i → ∀ ls : Array Slot, lv_has ls 5 [(4, .int (nI i)), (3, .int x3), (0, .ref (g 0)), (1, .int (nI k)), (2, .int (nI j))] → W p l e ({ frames := 3, cells := 0, slots := 0, locals := 67 } : Room) s m args below meth c H locs 0 0 (MQ below (QW (some (.int (hIH σ (nI k) j (-1) (kG σ)))) (fun H => ∃ M', mP E A g M' H ∧ MW E g M' σ 0) A) args s 0 0 A) (F0 m 45 ls []) := by
    intro n45
    induction n45 with
    | zero =>
      intro i hi45 H locs M hI hS x3 ex3 ls hl
      obtain ⟨hM, hw⟩ := hI
      obtain ⟨f1, m1, hf1⟩ := MW.house hw
      obtain ⟨f2, m2, hf2⟩ := MW.joined hw
      obtain ⟨f3, m3, hf3⟩ := MW.spooks hw
      obtain ⟨f4, m4, hf4⟩ := MW.people hw
      obtain ⟨f5, m5, hf5⟩ := MW.numbers hw
      obtain rfl : kG σ = i := by omega
      refine lv_iload hx hb dX5_haunting_45 (lv_at hl 0 rfl) ?_
      refine lv_aload_n hx hb dX5_haunting_47 rfl (lv_at hl 2 rfl) ?_
      refine m_get hx hb hts in_X5_haunting_X5 hown hK hM (MW.x hw) rfl 3 (by decide) (by decide +kernel) rfl dX5_haunting_48 ?_
      refine lv_icmp_ge (tgt := 85) hx hb dX5_haunting_51 (by decide) (fun c51 => ?_) (fun c9 => absurd (Int32.le_refl _) c9)
      refine lv_iload_n hx hb dX5_haunting_85 rfl (lv_at hl 1 rfl) ?_
      exact w_i hx hb hr hlocks dX5_haunting_86 hS (Nat.le_of_ble_eq_true rfl) (Nat.le_of_ble_eq_true rfl) (by first | rfl | assumption) (⟨_, hM, hw⟩)
    | succ n45 ih45 =>
      intro i hi45 H locs M hI hS x3 ex3 ls hl
      obtain ⟨hM, hw⟩ := hI
      obtain ⟨f1, m1, hf1⟩ := MW.house hw
      obtain ⟨f2, m2, hf2⟩ := MW.joined hw
      obtain ⟨f3, m3, hf3⟩ := MW.spooks hw
      obtain ⟨f4, m4, hf4⟩ := MW.people hw
      obtain ⟨f5, m5, hf5⟩ := MW.numbers hw
      have hlt45 : i < kG σ := by omega
      refine lv_iload hx hb dX5_haunting_45 (lv_at hl 0 rfl) ?_
      refine lv_aload_n hx hb dX5_haunting_47 rfl (lv_at hl 2 rfl) ?_
      refine m_get hx hb hts in_X5_haunting_X5 hown hK hM (MW.x hw) rfl 3 (by decide) (by decide +kernel) rfl dX5_haunting_48 ?_
      refine lv_icmp_ge (tgt := 85) hx hb dX5_haunting_51 (by decide) (fun c9 => absurd c9 (nI_ge hlt45 (by omega))) (fun c51 => ?_)
      refine lv_iload_n hx hb dX5_haunting_54 rfl (lv_at hl 1 rfl) ?_
      refine lv_aload_n hx hb dX5_haunting_55 rfl (lv_at hl 2 rfl) ?_
      refine lv_iload hx hb dX5_haunting_56 (lv_at hl 0 rfl) ?_
      refine lv_iload_n hx hb dX5_haunting_58 rfl (lv_at hl 4 rfl) ?_
      refine m_cV 2 [.int (nI i), .int (nI j)] [.int x3] hx hb hml hown hts hK (c_mplace l E A g M σ 0 hv hw i j (by omega) (by omega)) gX5_haunting_X5_place rfl rfl rfl (by decide +kernel) rfl ⟨Nat.le_of_ble_eq_true rfl, Nat.le_of_ble_eq_true rfl⟩ hM (MW.x hw) rfl rfl hM hl.1 (Nat.le_of_ble_eq_true rfl) ⟨Nat.le_of_ble_eq_true rfl, Nat.le_of_ble_eq_true rfl⟩ rfl dX5_haunting_59 ?_
      refine lv_iload_n hx hb dX5_haunting_62 rfl (lv_at hl 3 rfl) ?_
      refine lv_icmp_ne (tgt := 76) hx hb dX5_haunting_63 (by decide) (fun c63 => ?_) (fun c63 => ?_)
      · refine lv_iconst (v := 0) hx hb dX5_haunting_76 (by decide) ?_
        refine lv_iadd hx hb dX5_haunting_77 ?_
        refine lv_istore_n (lv' := [(3, .int (x3 + 0)), (4, .int (nI i)), (0, .ref (g 0)), (1, .int (nI k)), (2, .int (nI j))]) hx hb dX5_haunting_78 rfl hl (by decide) rfl (fun ls hl => ?_)
        refine lv_iinc (v := nI (i + 1)) (lv' := [(4, .int (nI (i + 1))), (3, .int (x3 + 0)), (0, .ref (g 0)), (1, .int (nI k)), (2, .int (nI j))]) hx hb dX5_haunting_79 hl (k := 1) rfl (m_inc _) (by decide) rfl (fun ls hl => ?_)
        refine lv_goto (tgt := 45) hx hb dX5_haunting_82 (by decide) ?_
        exact ih45 (i + 1) (by omega) _ _ _ ⟨hM, hw⟩ hS _ (by rw [hIH_m1 _ _ _ _ (by omega), if_neg c63, ex3]) ls (lv_sub hl [0, 1, 2, 3, 4] rfl)
      · refine lv_aload_n hx hb dX5_haunting_66 rfl (lv_at hl 2 rfl) ?_
        refine lv_iload hx hb dX5_haunting_67 (lv_at hl 0 rfl) ?_
        refine lv_iconst (v := 1) hx hb dX5_haunting_69 (by decide) ?_
        refine m_cV 2 [.int (nI i), .int 1] [.int x3] hx hb hml hown hts hK (c_sp l E A g M σ 0 hw i 1 (by omega) (by omega)) gX5_haunting_X5_sp rfl rfl rfl (by decide +kernel) rfl ⟨Nat.le_of_ble_eq_true rfl, Nat.le_of_ble_eq_true rfl⟩ hM (MW.x hw) rfl rfl hM hl.1 (Nat.le_of_ble_eq_true rfl) ⟨Nat.le_of_ble_eq_true rfl, Nat.le_of_ble_eq_true rfl⟩ rfl dX5_haunting_70 ?_
        refine lv_goto (tgt := 77) hx hb dX5_haunting_73 (by decide) ?_
        refine lv_iadd hx hb dX5_haunting_77 ?_
        refine lv_istore_n (lv' := [(3, .int (x3 + (sGh σ i 1))), (4, .int (nI i)), (0, .ref (g 0)), (1, .int (nI k)), (2, .int (nI j))]) hx hb dX5_haunting_78 rfl hl (by decide) rfl (fun ls hl => ?_)
        refine lv_iinc (v := nI (i + 1)) (lv' := [(4, .int (nI (i + 1))), (3, .int (x3 + (sGh σ i 1))), (0, .ref (g 0)), (1, .int (nI k)), (2, .int (nI j))]) hx hb dX5_haunting_79 hl (k := 1) rfl (m_inc _) (by decide) rfl (fun ls hl => ?_)
        refine lv_goto (tgt := 45) hx hb dX5_haunting_82 (by decide) ?_
        exact ih45 (i + 1) (by omega) _ _ _ ⟨hM, hw⟩ hS _ (by rw [hIH_m1 _ _ _ _ (by omega), if_pos c63, ex3]) ls (lv_sub hl [0, 1, 2, 3, 4] rfl)
  exact lp45 (kG σ) 0 (by omega) _ _ _ ⟨hM, hw⟩ hS _ (rfl) ls (lv_sub hl [0, 1, 2, 3, 4] rfl)
set_option maxHeartbeats 4000000 in
set_option maxRecDepth 100000 in
theorem m_hauntingB (l : Launch) (E : gE) (A : Nat → Prop) (g : Nat → Nat) (M : gM) (σ : Sg) (th : Int32) (hv : VS σ) (hw : MW E g M σ th) (x y : Int32) (hbad : ¬ ((0 ≤ x ∧ x < nI (kR σ)) ∧ (-1 ≤ y ∧ y ≤ 11))) : Met l yX5_haunting wsX5_haunting ({ frames := 2, cells := 0, slots := 0, locals := 43 } : Room) (Pm E [.ref (g 0), .int x, .int y] (mP E A g M)) (QW (some (.int 0)) (fun H => ∃ M', mP E A g M' H ∧ MW E g M' σ 1) A) 0 0 A := by
  refine m_entry (by decide) rfl (Nat.le_of_ble_eq_true rfl) ?_
  intro p e s m args below meth c hx hb hr hml hts hown hlocks hin hM hK ls hl
  have hl : lv_has ls 5 [(0, .ref (g 0)), (1, .int x), (2, .int y)] := hl
  have hown : s.vm.findClass RX5 = some m.cls := hown
  have hS : va_S A s.heap s.heap [] := va_S.rf
  skip
  obtain ⟨⟨hR9, hG9, hU9, hD9⟩, -⟩ := id hv
  obtain ⟨f1, m1, hf1⟩ := MW.house hw
  obtain ⟨f2, m2, hf2⟩ := MW.joined hw
  obtain ⟨f3, m3, hf3⟩ := MW.spooks hw
  obtain ⟨f4, m4, hf4⟩ := MW.people hw
  obtain ⟨f5, m5, hf5⟩ := MW.numbers hw
  refine lv_aload_n hx hb dX5_haunting_0 rfl (lv_at hl 0 rfl) ?_
  refine lv_iconst (v := 0) hx hb dX5_haunting_1 (by decide) ?_
  refine m_put hx hb hts in_X5_haunting_X5 tyX5 tyX5_ok nmX5 hown hK hM hS (MW.x hw) rfl 0 (by decide) (by decide +kernel) rfl (tyX5_ok 0 (by decide)) rfl rfl (Nat.le_of_ble_eq_true rfl) dX5_haunting_2 (fun H locs hM hz hS => ?_)
  obtain ⟨M, hM, hw⟩ : ∃ M', mP E A g M' H ∧ MW E g M' σ 0 := ⟨_, hM, MW.setTh hw _⟩
  obtain ⟨f1, m1, hf1⟩ := MW.house hw
  obtain ⟨f2, m2, hf2⟩ := MW.joined hw
  obtain ⟨f3, m3, hf3⟩ := MW.spooks hw
  obtain ⟨f4, m4, hf4⟩ := MW.people hw
  obtain ⟨f5, m5, hf5⟩ := MW.numbers hw
  refine lv_aload_n hx hb dX5_haunting_5 rfl (lv_at hl 0 rfl) ?_
  refine lv_iload_n hx hb dX5_haunting_6 rfl (lv_at hl 1 rfl) ?_
  refine m_cV 1 [.int x] [] hx hb hml hown hts hK (c_misRoom l E A g M σ 0 hv hw x) gX5_haunting_X5_isRoom rfl rfl rfl (by decide +kernel) rfl ⟨Nat.le_of_ble_eq_true rfl, Nat.le_of_ble_eq_true rfl⟩ hM (MW.x hw) rfl rfl hM hl.1 (Nat.le_of_ble_eq_true rfl) ⟨Nat.le_of_ble_eq_true rfl, Nat.le_of_ble_eq_true rfl⟩ rfl dX5_haunting_7 ?_
  refine lv_if_eq (tgt := 23) hx hb dX5_haunting_10 (by decide) (fun c10 => ?_) (fun c10 => ?_)
  · have c10 := of_decide_eq_false (bI_f c10)
    refine lv_aload_n hx hb dX5_haunting_23 rfl (lv_at hl 0 rfl) ?_
    refine lv_iconst (v := 1) hx hb dX5_haunting_24 (by decide) ?_
    refine m_wV 1 [.int 1] [] hx hb hml hown hts hK (c_fail l E A g M σ 0 hw 1) gX5_haunting_X5_fail rfl rfl rfl (by decide +kernel) rfl ⟨Nat.le_of_ble_eq_true rfl, Nat.le_of_ble_eq_true rfl⟩ hM (MW.x hw) rfl rfl hM hl.1 (Nat.le_of_ble_eq_true rfl) ⟨Nat.le_of_ble_eq_true rfl, Nat.le_of_ble_eq_true rfl⟩ rfl dX5_haunting_25 hS (fun _ _ h => h) (fun _ h => h) (fun H locs hQ hz hk hS => ?_)
    refine W.eq (g2 := F0 m 28 ls [.int 0]) rfl ?_
    obtain ⟨M, hM, hw⟩ := hQ
    obtain ⟨f1, m1, hf1⟩ := MW.house hw
    obtain ⟨f2, m2, hf2⟩ := MW.joined hw
    obtain ⟨f3, m3, hf3⟩ := MW.spooks hw
    obtain ⟨f4, m4, hf4⟩ := MW.people hw
    obtain ⟨f5, m5, hf5⟩ := MW.numbers hw
    exact w_i hx hb hr hlocks dX5_haunting_28 hS (Nat.le_of_ble_eq_true rfl) (Nat.le_of_ble_eq_true rfl) (by first | rfl | assumption) (⟨_, hM, hw⟩)
  · have c10 := of_decide_eq_true (bI_t c10)
    refine lv_iload_n hx hb dX5_haunting_13 rfl (lv_at hl 2 rfl) ?_
    refine lv_iconst (v := (-1)) hx hb dX5_haunting_14 (by decide) ?_
    refine lv_bipush (v := 11) hx hb dX5_haunting_15 (by decide) ?_
    refine m_cS 3 [.int y, .int (-1), .int 11] [] hx hb hml hown hts hK (c_isIn l E A g M y (-1) 11) gX5_haunting_X5_isIn rfl rfl rfl (by decide +kernel) rfl ⟨Nat.le_of_ble_eq_true rfl, Nat.le_of_ble_eq_true rfl⟩ trivial hl.1 (Nat.le_of_ble_eq_true rfl) ⟨Nat.le_of_ble_eq_true rfl, Nat.le_of_ble_eq_true rfl⟩ rfl dX5_haunting_17 ?_
    refine lv_if_ne (tgt := 29) hx hb dX5_haunting_20 (by decide) (fun c9 => absurd ⟨c10, of_decide_eq_true (bI_t c9)⟩ hbad) (fun c20 => ?_)
    have c20 := of_decide_eq_false (bI_f c20)
    refine lv_aload_n hx hb dX5_haunting_23 rfl (lv_at hl 0 rfl) ?_
    refine lv_iconst (v := 1) hx hb dX5_haunting_24 (by decide) ?_
    refine m_wV 1 [.int 1] [] hx hb hml hown hts hK (c_fail l E A g M σ 0 hw 1) gX5_haunting_X5_fail rfl rfl rfl (by decide +kernel) rfl ⟨Nat.le_of_ble_eq_true rfl, Nat.le_of_ble_eq_true rfl⟩ hM (MW.x hw) rfl rfl hM hl.1 (Nat.le_of_ble_eq_true rfl) ⟨Nat.le_of_ble_eq_true rfl, Nat.le_of_ble_eq_true rfl⟩ rfl dX5_haunting_25 hS (fun _ _ h => h) (fun _ h => h) (fun H locs hQ hz hk hS => ?_)
    refine W.eq (g2 := F0 m 28 ls [.int 0]) rfl ?_
    obtain ⟨M, hM, hw⟩ := hQ
    obtain ⟨f1, m1, hf1⟩ := MW.house hw
    obtain ⟨f2, m2, hf2⟩ := MW.joined hw
    obtain ⟨f3, m3, hf3⟩ := MW.spooks hw
    obtain ⟨f4, m4, hf4⟩ := MW.people hw
    obtain ⟨f5, m5, hf5⟩ := MW.numbers hw
    exact w_i hx hb hr hlocks dX5_haunting_28 hS (Nat.le_of_ble_eq_true rfl) (Nat.le_of_ble_eq_true rfl) (by first | rfl | assumption) (⟨_, hM, hw⟩)
theorem in_X5_leave_X5 : ∀ w ∈ u_ws RX5 TX5 11, w ∈ wsX5_leave := by decide +kernel
set_option maxHeartbeats 4000000 in
set_option maxRecDepth 100000 in
theorem m_leave (l : Launch) (E : gE) (A : Nat → Prop) (g : Nat → Nat) (M : gM) (σ : Sg) (th : Int32) (hv : VS σ) (hw : MW E g M σ th) (u : Nat) (hu : u < kU σ) : Met l yX5_leave wsX5_leave ({ frames := 2, cells := 0, slots := 0, locals := 44 } : Room) (Pm E [.ref (g 0), .int (nI u)] (mP E A g M)) (QW (some (.int (sGu σ u 3))) (fun H => ∃ M', mP E A g M' H ∧ MW E g M' (uU (uU σ u 3 (-1)) u 4 0) 0) A) 0 0 A := by
  refine m_entry (by decide) rfl (Nat.le_of_ble_eq_true rfl) ?_
  intro p e s m args below meth c hx hb hr hml hts hown hlocks hin hM hK ls hl
  have hl : lv_has ls 3 [(0, .ref (g 0)), (1, .int (nI u))] := hl
  have hown : s.vm.findClass RX5 = some m.cls := hown
  have hS : va_S A s.heap s.heap [] := va_S.rf
  skip
  obtain ⟨⟨hR9, hG9, hU9, hD9⟩, -⟩ := id hv
  obtain ⟨f1, m1, hf1⟩ := MW.house hw
  obtain ⟨f2, m2, hf2⟩ := MW.joined hw
  obtain ⟨f3, m3, hf3⟩ := MW.spooks hw
  obtain ⟨f4, m4, hf4⟩ := MW.people hw
  obtain ⟨f5, m5, hf5⟩ := MW.numbers hw
  refine lv_aload_n hx hb dX5_leave_0 rfl (lv_at hl 0 rfl) ?_
  refine lv_iconst (v := 0) hx hb dX5_leave_1 (by decide) ?_
  refine m_put hx hb hts in_X5_leave_X5 tyX5 tyX5_ok nmX5 hown hK hM hS (MW.x hw) rfl 0 (by decide) (by decide +kernel) rfl (tyX5_ok 0 (by decide)) rfl rfl (Nat.le_of_ble_eq_true rfl) dX5_leave_2 (fun H locs hM hz hS => ?_)
  obtain ⟨M, hM, hw⟩ : ∃ M', mP E A g M' H ∧ MW E g M' σ 0 := ⟨_, hM, MW.setTh hw _⟩
  obtain ⟨f1, m1, hf1⟩ := MW.house hw
  obtain ⟨f2, m2, hf2⟩ := MW.joined hw
  obtain ⟨f3, m3, hf3⟩ := MW.spooks hw
  obtain ⟨f4, m4, hf4⟩ := MW.people hw
  obtain ⟨f5, m5, hf5⟩ := MW.numbers hw
  refine lv_aload_n hx hb dX5_leave_5 rfl (lv_at hl 0 rfl) ?_
  refine lv_iload_n hx hb dX5_leave_6 rfl (lv_at hl 1 rfl) ?_
  refine m_cV 1 [.int (nI u)] [] hx hb hml hown hts hK (c_misGuestY l E A g M σ 0 hv hw u (by omega)) gX5_leave_X5_isGuest rfl rfl rfl (by decide +kernel) rfl ⟨Nat.le_of_ble_eq_true rfl, Nat.le_of_ble_eq_true rfl⟩ hM (MW.x hw) rfl rfl hM hl.1 (Nat.le_of_ble_eq_true rfl) ⟨Nat.le_of_ble_eq_true rfl, Nat.le_of_ble_eq_true rfl⟩ rfl dX5_leave_7 ?_
  refine lv_if_ne (tgt := 19) hx hb dX5_leave_10 (by decide) (fun c9 => ?_) (fun c9 => absurd c9 (by decide))
  refine lv_aload_n hx hb dX5_leave_19 rfl (lv_at hl 0 rfl) ?_
  refine lv_iload_n hx hb dX5_leave_20 rfl (lv_at hl 1 rfl) ?_
  refine lv_iconst (v := 3) hx hb dX5_leave_21 (by decide) ?_
  refine m_cV 2 [.int (nI u), .int 3] [] hx hb hml hown hts hK (c_pe l E A g M σ 0 hw u 3 (by omega) (by omega)) gX5_leave_X5_pe rfl rfl rfl (by decide +kernel) rfl ⟨Nat.le_of_ble_eq_true rfl, Nat.le_of_ble_eq_true rfl⟩ hM (MW.x hw) rfl rfl hM hl.1 (Nat.le_of_ble_eq_true rfl) ⟨Nat.le_of_ble_eq_true rfl, Nat.le_of_ble_eq_true rfl⟩ rfl dX5_leave_22 ?_
  refine lv_istore_n (lv' := [(2, .int (sGu σ u 3)), (0, .ref (g 0)), (1, .int (nI u))]) hx hb dX5_leave_25 rfl hl (by decide) rfl (fun ls hl => ?_)
  refine lv_aload_n hx hb dX5_leave_26 rfl (lv_at hl 1 rfl) ?_
  refine lv_iload_n hx hb dX5_leave_27 rfl (lv_at hl 2 rfl) ?_
  refine m_wV 1 [.int (nI u)] [] hx hb hml hown hts hK (c_withdraw l E A g M σ 0 hw u (by omega)) gX5_leave_X5_withdraw rfl rfl rfl (by decide +kernel) rfl ⟨Nat.le_of_ble_eq_true rfl, Nat.le_of_ble_eq_true rfl⟩ hM (MW.x hw) rfl rfl hM hl.1 (Nat.le_of_ble_eq_true rfl) ⟨Nat.le_of_ble_eq_true rfl, Nat.le_of_ble_eq_true rfl⟩ rfl dX5_leave_28 hS (fun _ _ h => h) (fun _ h => h) (fun H locs hQ hz hk hS => ?_)
  refine W.eq (g2 := F0 m 31 ls []) rfl ?_
  obtain ⟨M, hM, hw⟩ := hQ
  obtain ⟨f1, m1, hf1⟩ := MW.house hw
  obtain ⟨f2, m2, hf2⟩ := MW.joined hw
  obtain ⟨f3, m3, hf3⟩ := MW.spooks hw
  obtain ⟨f4, m4, hf4⟩ := MW.people hw
  obtain ⟨f5, m5, hf5⟩ := MW.numbers hw
  refine lv_iload_n hx hb dX5_leave_31 rfl (lv_at hl 0 rfl) ?_
  exact w_i hx hb hr hlocks dX5_leave_32 hS (Nat.le_of_ble_eq_true rfl) (Nat.le_of_ble_eq_true rfl) (by first | rfl | assumption) (⟨_, hM, hw⟩)
set_option maxHeartbeats 4000000 in
set_option maxRecDepth 100000 in
theorem m_leaveB (l : Launch) (E : gE) (A : Nat → Prop) (g : Nat → Nat) (M : gM) (σ : Sg) (th : Int32) (hv : VS σ) (hw : MW E g M σ th) (x : Int32) (hbad : ¬ (0 ≤ x ∧ x < nI (kU σ))) : Met l yX5_leave wsX5_leave ({ frames := 2, cells := 0, slots := 0, locals := 43 } : Room) (Pm E [.ref (g 0), .int x] (mP E A g M)) (QW (some (.int 0)) (fun H => ∃ M', mP E A g M' H ∧ MW E g M' σ 1) A) 0 0 A := by
  refine m_entry (by decide) rfl (Nat.le_of_ble_eq_true rfl) ?_
  intro p e s m args below meth c hx hb hr hml hts hown hlocks hin hM hK ls hl
  have hl : lv_has ls 3 [(0, .ref (g 0)), (1, .int x)] := hl
  have hown : s.vm.findClass RX5 = some m.cls := hown
  have hS : va_S A s.heap s.heap [] := va_S.rf
  skip
  obtain ⟨⟨hR9, hG9, hU9, hD9⟩, -⟩ := id hv
  obtain ⟨f1, m1, hf1⟩ := MW.house hw
  obtain ⟨f2, m2, hf2⟩ := MW.joined hw
  obtain ⟨f3, m3, hf3⟩ := MW.spooks hw
  obtain ⟨f4, m4, hf4⟩ := MW.people hw
  obtain ⟨f5, m5, hf5⟩ := MW.numbers hw
  refine lv_aload_n hx hb dX5_leave_0 rfl (lv_at hl 0 rfl) ?_
  refine lv_iconst (v := 0) hx hb dX5_leave_1 (by decide) ?_
  refine m_put hx hb hts in_X5_leave_X5 tyX5 tyX5_ok nmX5 hown hK hM hS (MW.x hw) rfl 0 (by decide) (by decide +kernel) rfl (tyX5_ok 0 (by decide)) rfl rfl (Nat.le_of_ble_eq_true rfl) dX5_leave_2 (fun H locs hM hz hS => ?_)
  obtain ⟨M, hM, hw⟩ : ∃ M', mP E A g M' H ∧ MW E g M' σ 0 := ⟨_, hM, MW.setTh hw _⟩
  obtain ⟨f1, m1, hf1⟩ := MW.house hw
  obtain ⟨f2, m2, hf2⟩ := MW.joined hw
  obtain ⟨f3, m3, hf3⟩ := MW.spooks hw
  obtain ⟨f4, m4, hf4⟩ := MW.people hw
  obtain ⟨f5, m5, hf5⟩ := MW.numbers hw
  refine lv_aload_n hx hb dX5_leave_5 rfl (lv_at hl 0 rfl) ?_
  refine lv_iload_n hx hb dX5_leave_6 rfl (lv_at hl 1 rfl) ?_
  refine m_cV 1 [.int x] [] hx hb hml hown hts hK (c_misGuest l E A g M σ 0 hv hw x) gX5_leave_X5_isGuest rfl rfl rfl (by decide +kernel) rfl ⟨Nat.le_of_ble_eq_true rfl, Nat.le_of_ble_eq_true rfl⟩ hM (MW.x hw) rfl rfl hM hl.1 (Nat.le_of_ble_eq_true rfl) ⟨Nat.le_of_ble_eq_true rfl, Nat.le_of_ble_eq_true rfl⟩ rfl dX5_leave_7 ?_
  refine lv_if_ne (tgt := 19) hx hb dX5_leave_10 (by decide) (fun c9 => absurd (of_decide_eq_true (bI_t c9)) hbad) (fun c10 => ?_)
  have c10 := of_decide_eq_false (bI_f c10)
  refine lv_aload_n hx hb dX5_leave_13 rfl (lv_at hl 0 rfl) ?_
  refine lv_iconst (v := 1) hx hb dX5_leave_14 (by decide) ?_
  refine m_wV 1 [.int 1] [] hx hb hml hown hts hK (c_fail l E A g M σ 0 hw 1) gX5_leave_X5_fail rfl rfl rfl (by decide +kernel) rfl ⟨Nat.le_of_ble_eq_true rfl, Nat.le_of_ble_eq_true rfl⟩ hM (MW.x hw) rfl rfl hM hl.1 (Nat.le_of_ble_eq_true rfl) ⟨Nat.le_of_ble_eq_true rfl, Nat.le_of_ble_eq_true rfl⟩ rfl dX5_leave_15 hS (fun _ _ h => h) (fun _ h => h) (fun H locs hQ hz hk hS => ?_)
  refine W.eq (g2 := F0 m 18 ls [.int 0]) rfl ?_
  obtain ⟨M, hM, hw⟩ := hQ
  obtain ⟨f1, m1, hf1⟩ := MW.house hw
  obtain ⟨f2, m2, hf2⟩ := MW.joined hw
  obtain ⟨f3, m3, hf3⟩ := MW.spooks hw
  obtain ⟨f4, m4, hf4⟩ := MW.people hw
  obtain ⟨f5, m5, hf5⟩ := MW.numbers hw
  exact w_i hx hb hr hlocks dX5_leave_18 hS (Nat.le_of_ble_eq_true rfl) (Nat.le_of_ble_eq_true rfl) (by first | rfl | assumption) (⟨_, hM, hw⟩)
