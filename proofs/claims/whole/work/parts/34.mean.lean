/-! WHAT MAY DRAW: the means -/
def QD (x : UInt64) (Ph : Heap → Prop) (A : Nat → Prop) : Array Value → State → Outcome → State → Prop := fun _ s o t => ∃ r, o = .returned (some (.double r)) ∧ alike64 r x = true ∧ Ph t.heap ∧ va_F A s t
theorem alike_refl (x : UInt64) : alike64 x x = true := by simp [alike64]
theorem d_entry {l : Launch} {E : gE} {av : List Value} {P : Heap → Prop} {y : MethodName} {ws ws' : List Cond} {rm : Room} {Qc : Array Value → State → Outcome → State → Prop} {mc ms : Nat} {free : Addr → Prop} {cc : ByteArray} {maxL : Nat} {ret : Option FieldType}
    (hy : plainName y.cls = true) (hw : ws = Cond.code y cc maxL ret :: ws') (hn : (lg_sl av).length ≤ maxL)
    (body : ∀ (p : Program) (e : Env) (s : State) (m : MethodId) (args : Array Value) (below : List Frame) (meth : Method) (c : Code), p.tables.exec = Jvm.exec → c.code = cc → meth.sig.returnType = ret → c.maxLocals = maxL → (∀ w ∈ ws, w.before args s = true) → s.vm.findClass y.cls = some m.cls → meth.locks = false → meth.name = y.name →
      P s.heap → kK E s → ∀ ls : Array Slot, lv_has ls maxL (lv_args 0 av) → W p l e rm s m args below meth c s.heap [] 0 0 (MQD lw_cs below Qc args s mc ms free) (F0 m 0 ls [])) : MetD lw_cs l y ws rm (Pm E av P) Qc mc ms free := by
  refine MetD.ofW (cc := cc) (maxL := maxL) (ret := ret) hy hw ?_
  intro p e s m args below meth c s₁ B hml hv hd0
  obtain ⟨rfl, hP, hK⟩ := hv
  have hl := lv_entry av (n := maxL) hn
  rw [lg_entry_eq]
  exact W.base (body p e s m av.toArray below meth c B.exec B.bytes B.returns hml (atoms_spec (ws := ws) B.pre) (findClass_of_methodNamed B.named) B.notSynchronized (name_of_methodNamed B.named B.method).1 hP hK _ hl)
section
variable {p : Program} {l : Launch} {e : Env} {R : Room} {s : State} {m : MethodId} {args : Array Value} {below : List Frame} {meth : Method} {c : Code} {H : Heap} {locs : List Loc} {cells slots : Nat}
variable {cc : ByteArray} {pc : Nat} {ls : Array Slot} {A : Nat → Prop} {Ph : Heap → Prop} {mc ms : Nat}
theorem w_d {r x : UInt64} (hx : p.tables.exec = Jvm.exec) (hb : c.code = cc) (hr : meth.sig.returnType = some .double) (hlocks : meth.locks = false) (hdg : decode cc pc = .ok (.dreturn, 1)) (hS : va_S A s.heap H locs) (hc : cells ≤ mc) (hs : slots ≤ ms) (hal : alike64 r x = true) (hP : Ph H) : W p l e R s m args below meth c H locs cells slots (MQ below (QD x Ph A) args s mc ms A) (F0 m pc ls [.double r]) := by
  refine W.widen hc hs ?_
  exact W.dret hx hb hr (fun t ht hW => ⟨r, rfl, hal, by rw [ht]; exact hP, hS.F ht⟩) hS.2.2 hdg hlocks
end
def mnA (σ : Sg) : Nat → Int32
  | 0 => 0
  | i + 1 => mnA σ i + sRm σ i 3
def mnX (σ : Sg) : UInt64 := if mnA σ (kR σ) = 0 then FP.dconst0 else FP.ddiv (FP.i2d (sH σ)) (FP.i2d (mnA σ (kR σ)))
theorem in_X4_mean_X2 : ∀ w ∈ u_ws RX2 TX2 6, w ∈ wsX4_mean := by decide +kernel
theorem in_X4_mean_X4 : ∀ w ∈ u_ws RX4 TX4 8, w ∈ wsX4_mean := by decide +kernel
set_option maxHeartbeats 4000000 in
set_option maxRecDepth 100000 in
theorem c_mean (l : Launch) (E : gE) (A : Nat → Prop) (g : Nat → Nat) (M : gM) (σ : Sg) (hv : VS σ) (hw : CW E g M σ) (hp : PW E M σ)  : MetD lw_cs l yX4_mean wsX4_mean ({ frames := 3, cells := 0, slots := 0, locals := 64 } : Room) (Pm E [.ref (g 0)] (mP E A g M)) (QD (mnX σ) (mP E A g M) A) 0 0 A := by
  refine d_entry (by decide) rfl (Nat.le_of_ble_eq_true rfl) ?_
  intro p e s m args below meth c hx hb hr hml hts hown hlocks hin hM hK ls hl
  have hl : lv_has ls 3 [(0, .ref (g 0))] := hl
  have hown : s.vm.findClass RX4 = some m.cls := hown
  have hS : va_S A s.heap s.heap [] := va_S.rf
  skip
  obtain ⟨⟨hR9, hG9, hU9, hD9⟩, -⟩ := id hv
  obtain ⟨mc1, el1, h1, -⟩ := CW.LR hw
  obtain ⟨mc2, el2, h2, -⟩ := CW.LG hw
  obtain ⟨mc3, el3, h3, -⟩ := CW.LU hw
  refine lv_iconst (v := 0) hx hb dX4_mean_0 (by decide) ?_
  refine lv_istore_n (lv' := [(1, .int 0), (0, .ref (g 0))]) hx hb dX4_mean_1 rfl hl (by decide) rfl (fun ls hl => ?_)
  refine lv_iconst (v := 0) hx hb dX4_mean_2 (by decide) ?_
  refine lv_istore_n (lv' := [(2, .int 0), (1, .int 0), (0, .ref (g 0))]) hx hb dX4_mean_3 rfl hl (by decide) rfl (fun ls hl => ?_)
  have lp4 : ∀ (n4 i : Nat), n4 + i = kR σ → ∀ (H : Heap) (locs : List Loc), mP E A g M H → va_S A s.heap H locs → ∀ x1 : Int32, x1 = mnA σ i → ∀ ls : Array Slot, lv_has ls 3 [(2, .int (nI i)), (1, .int x1), (0, .ref (g 0))] → W p l e ({ frames := 3, cells := 0, slots := 0, locals := 64 } : Room) s m args below meth c H locs 0 0 (MQD lw_cs below (QD (mnX σ) (mP E A g M) A) args s 0 0 A) (F0 m 4 ls []) := by
    intro n4
    induction n4 with
    | zero =>
      intro i hi4 H locs hM hS x1 ex1 ls hl
      obtain rfl : kR σ = i := by omega
      refine lv_iload_n hx hb dX4_mean_4 rfl (lv_at hl 0 rfl) ?_
      refine lv_aload_n hx hb dX4_mean_5 rfl (lv_at hl 2 rfl) ?_
      refine m_get hx hb hts in_X4_mean_X4 hown hK hM (CW.x hw) rfl 0 (by decide) (by decide +kernel) rfl dX4_mean_6 ?_
      refine m_cV 0 [] [.int (nI (kR σ))] hx hb hml hown hts hK (c_size l E A g M (CW.LR hw)) gX4_mean_Jx4a65c_size_8abf5 rfl rfl rfl (by decide +kernel) rfl ⟨Nat.le_of_ble_eq_true rfl, Nat.le_of_ble_eq_true rfl⟩ hM h1 rfl rfl hM hl.1 (Nat.le_of_ble_eq_true rfl) ⟨Nat.le_of_ble_eq_true rfl, Nat.le_of_ble_eq_true rfl⟩ rfl dX4_mean_9 ?_
      refine lv_icmp_ge (tgt := 38) hx hb dX4_mean_12 (by decide) (fun c12 => ?_) (fun c9 => absurd (Int32.le_refl _) c9)
      refine lv_iload_n hx hb dX4_mean_38 rfl (lv_at hl 1 rfl) ?_
      refine lv_if_ne (tgt := 46) hx hb dX4_mean_39 (by decide) (fun c39 => ?_) (fun c39 => ?_)
      · refine lv_aload_n hx hb dX4_mean_46 rfl (lv_at hl 2 rfl) ?_
        refine m_get hx hb hts in_X4_mean_X4 hown hK hM (CW.x hw) rfl 6 (by decide) (by decide +kernel) rfl dX4_mean_47 ?_
        refine lv_i2d hx hb dX4_mean_50 ?_
        refine lv_iload_n hx hb dX4_mean_51 rfl (lv_at hl 1 rfl) ?_
        refine lv_i2d hx hb dX4_mean_52 ?_
        refine lv_ddiv_any (s := s) (d0 := s.drawn) (Drawn.sameBut.refl s.drawn lw_cs) lw_bits hx hb dX4_mean_53 (fun r1 d1 hal hd1 => ?_)
        refine W.endD (s := s) hd1 ?_
        exact w_d hx hb hr hlocks dX4_mean_54 hS (Nat.le_of_ble_eq_true rfl) (Nat.le_of_ble_eq_true rfl) (by rw [mnX, if_neg (by rw [← ex1]; exact c39), ← ex1]; exact hal) (hM)
      · refine lv_dconst0 hx hb dX4_mean_42 ?_
        refine lv_goto (tgt := 54) hx hb dX4_mean_43 (by decide) ?_
        refine W.endD (s := s) (d0 := s.drawn) (Drawn.sameBut.refl s.drawn lw_cs) ?_
        exact w_d hx hb hr hlocks dX4_mean_54 hS (Nat.le_of_ble_eq_true rfl) (Nat.le_of_ble_eq_true rfl) (by rw [mnX, if_pos (by rw [← ex1]; exact c39)]; exact alike_refl _) (hM)
    | succ n4 ih4 =>
      intro i hi4 H locs hM hS x1 ex1 ls hl
      have hlt4 : i < kR σ := by omega
      refine lv_iload_n hx hb dX4_mean_4 rfl (lv_at hl 0 rfl) ?_
      refine lv_aload_n hx hb dX4_mean_5 rfl (lv_at hl 2 rfl) ?_
      refine m_get hx hb hts in_X4_mean_X4 hown hK hM (CW.x hw) rfl 0 (by decide) (by decide +kernel) rfl dX4_mean_6 ?_
      refine m_cV 0 [] [.int (nI i)] hx hb hml hown hts hK (c_size l E A g M (CW.LR hw)) gX4_mean_Jx4a65c_size_8abf5 rfl rfl rfl (by decide +kernel) rfl ⟨Nat.le_of_ble_eq_true rfl, Nat.le_of_ble_eq_true rfl⟩ hM h1 rfl rfl hM hl.1 (Nat.le_of_ble_eq_true rfl) ⟨Nat.le_of_ble_eq_true rfl, Nat.le_of_ble_eq_true rfl⟩ rfl dX4_mean_9 ?_
      refine lv_icmp_ge (tgt := 38) hx hb dX4_mean_12 (by decide) (fun c9 => absurd c9 (nI_ge hlt4 (by omega))) (fun c12 => ?_)
      refine lv_iload_n hx hb dX4_mean_15 rfl (lv_at hl 1 rfl) ?_
      refine lv_aload_n hx hb dX4_mean_16 rfl (lv_at hl 2 rfl) ?_
      refine m_get hx hb hts in_X4_mean_X4 hown hK hM (CW.x hw) rfl 0 (by decide) (by decide +kernel) rfl dX4_mean_17 ?_
      refine lv_iload_n hx hb dX4_mean_20 rfl (lv_at hl 0 rfl) ?_
      refine m_cV 1 [.int (nI i)] [.int x1] hx hb hml hown hts hK (c_get l E A g M (CW.LR hw) (by omega) i (by omega)) gX4_mean_Jx4a65c_get_915e3 rfl rfl rfl (by decide +kernel) rfl ⟨Nat.le_of_ble_eq_true rfl, Nat.le_of_ble_eq_true rfl⟩ hM h1 rfl rfl hM hl.1 (Nat.le_of_ble_eq_true rfl) ⟨Nat.le_of_ble_eq_true rfl, Nat.le_of_ble_eq_true rfl⟩ rfl dX4_mean_21 ?_
      refine m_cast (ci := 3) hx hb hts hown (by decide +kernel) hK hM (CW.room hw (i := i) (by omega)) rfl dX4_mean_24 ?_
      refine m_get hx hb hts in_X4_mean_X2 hown hK hM (CW.room hw (i := i) (by omega)) rfl 3 (by decide) (by decide +kernel) rfl dX4_mean_27 ?_
      refine lv_iadd hx hb dX4_mean_30 ?_
      refine lv_istore_n (lv' := [(1, .int (x1 + (sRm σ i 3))), (2, .int (nI i)), (0, .ref (g 0))]) hx hb dX4_mean_31 rfl hl (by decide) rfl (fun ls hl => ?_)
      refine lv_iinc (v := nI (i + 1)) (lv' := [(2, .int (nI (i + 1))), (1, .int (x1 + (sRm σ i 3))), (0, .ref (g 0))]) hx hb dX4_mean_32 hl (k := 1) rfl (m_inc _) (by decide) rfl (fun ls hl => ?_)
      refine lv_goto (tgt := 4) hx hb dX4_mean_35 (by decide) ?_
      exact ih4 (i + 1) (by omega) _ _ hM hS _ (by rw [mnA, ex1]) ls (lv_sub hl [0, 1, 2] rfl)
  exact lp4 (kR σ) 0 (by omega) _ _ hM hS _ (rfl) ls (lv_sub hl [0, 1, 2] rfl)
theorem in_X5_mean_X5 : ∀ w ∈ u_ws RX5 TX5 11, w ∈ wsX5_mean := by decide +kernel
set_option maxHeartbeats 4000000 in
set_option maxRecDepth 100000 in
theorem m_mean (l : Launch) (E : gE) (A : Nat → Prop) (g : Nat → Nat) (M : gM) (σ : Sg) (th : Int32) (hv : VS σ) (hw : MW E g M σ th)  : MetD lw_cs l yX5_mean wsX5_mean ({ frames := 1, cells := 0, slots := 0, locals := 22 } : Room) (Pm E [.ref (g 0)] (mP E A g M)) (QD (mnX σ) (fun H => ∃ M', mP E A g M' H ∧ MW E g M' σ 0) A) 0 0 A := by
  refine d_entry (by decide) rfl (Nat.le_of_ble_eq_true rfl) ?_
  intro p e s m args below meth c hx hb hr hml hts hown hlocks hin hM hK ls hl
  have hl : lv_has ls 3 [(0, .ref (g 0))] := hl
  have hown : s.vm.findClass RX5 = some m.cls := hown
  have hS : va_S A s.heap s.heap [] := va_S.rf
  skip
  obtain ⟨⟨hR9, hG9, hU9, hD9⟩, -⟩ := id hv
  obtain ⟨f1, m1, hf1⟩ := MW.house hw
  obtain ⟨f2, m2, hf2⟩ := MW.joined hw
  obtain ⟨f3, m3, hf3⟩ := MW.spooks hw
  obtain ⟨f4, m4, hf4⟩ := MW.people hw
  obtain ⟨f5, m5, hf5⟩ := MW.numbers hw
  refine lv_aload_n hx hb dX5_mean_0 rfl (lv_at hl 0 rfl) ?_
  refine lv_iconst (v := 0) hx hb dX5_mean_1 (by decide) ?_
  refine m_put hx hb hts in_X5_mean_X5 tyX5 tyX5_ok nmX5 hown hK hM hS (MW.x hw) rfl 0 (by decide) (by decide +kernel) rfl (tyX5_ok 0 (by decide)) rfl rfl (Nat.le_of_ble_eq_true rfl) dX5_mean_2 (fun H locs hM hz hS => ?_)
  obtain ⟨M, hM, hw⟩ : ∃ M', mP E A g M' H ∧ MW E g M' σ 0 := ⟨_, hM, MW.setTh hw _⟩
  obtain ⟨f1, m1, hf1⟩ := MW.house hw
  obtain ⟨f2, m2, hf2⟩ := MW.joined hw
  obtain ⟨f3, m3, hf3⟩ := MW.spooks hw
  obtain ⟨f4, m4, hf4⟩ := MW.people hw
  obtain ⟨f5, m5, hf5⟩ := MW.numbers hw
  refine lv_iconst (v := 0) hx hb dX5_mean_5 (by decide) ?_
  refine lv_istore_n (lv' := [(1, .int 0), (0, .ref (g 0))]) hx hb dX5_mean_6 rfl hl (by decide) rfl (fun ls hl => ?_)
  refine lv_iconst (v := 0) hx hb dX5_mean_7 (by decide) ?_
  refine lv_istore_n (lv' := [(2, .int 0), (1, .int 0), (0, .ref (g 0))]) hx hb dX5_mean_8 rfl hl (by decide) rfl (fun ls hl => ?_)
  have lp9 : ∀ (n9 i : Nat), n9 + i = kR σ → ∀ (H : Heap) (locs : List Loc) (M : gM), (mP E A g M H ∧ MW E g M σ 0) → va_S A s.heap H locs → ∀ x1 : Int32, x1 = mnA σ i → ∀ ls : Array Slot, lv_has ls 3 [(2, .int (nI i)), (1, .int x1), (0, .ref (g 0))] → W p l e ({ frames := 1, cells := 0, slots := 0, locals := 22 } : Room) s m args below meth c H locs 0 0 (MQD lw_cs below (QD (mnX σ) (fun H => ∃ M', mP E A g M' H ∧ MW E g M' σ 0) A) args s 0 0 A) (F0 m 9 ls []) := by
    intro n9
    induction n9 with
    | zero =>
      intro i hi9 H locs M hI hS x1 ex1 ls hl
      obtain ⟨hM, hw⟩ := hI
      obtain ⟨f1, m1, hf1⟩ := MW.house hw
      obtain ⟨f2, m2, hf2⟩ := MW.joined hw
      obtain ⟨f3, m3, hf3⟩ := MW.spooks hw
      obtain ⟨f4, m4, hf4⟩ := MW.people hw
      obtain ⟨f5, m5, hf5⟩ := MW.numbers hw
      obtain rfl : kR σ = i := by omega
      refine lv_iload_n hx hb dX5_mean_9 rfl (lv_at hl 0 rfl) ?_
      refine lv_aload_n hx hb dX5_mean_10 rfl (lv_at hl 2 rfl) ?_
      refine m_get hx hb hts in_X5_mean_X5 hown hK hM (MW.x hw) rfl 1 (by decide) (by decide +kernel) rfl dX5_mean_11 ?_
      refine lv_icmp_ge (tgt := 32) hx hb dX5_mean_14 (by decide) (fun c14 => ?_) (fun c9 => absurd (Int32.le_refl _) c9)
      refine lv_iload_n hx hb dX5_mean_32 rfl (lv_at hl 1 rfl) ?_
      refine lv_if_ne (tgt := 40) hx hb dX5_mean_33 (by decide) (fun c33 => ?_) (fun c33 => ?_)
      · refine lv_aload_n hx hb dX5_mean_40 rfl (lv_at hl 2 rfl) ?_
        refine m_get hx hb hts in_X5_mean_X5 hown hK hM (MW.x hw) rfl 9 (by decide) (by decide +kernel) rfl dX5_mean_41 ?_
        refine lv_iconst (v := 1) hx hb dX5_mean_44 (by decide) ?_
        refine m_iald (v := sH σ) hx hb hK hM m5 (ix_ok (n := 1) ⟨by decide, by decide⟩) (hf5.2.1) dX5_mean_45 ?_
        refine lv_i2d hx hb dX5_mean_46 ?_
        refine lv_iload_n hx hb dX5_mean_47 rfl (lv_at hl 1 rfl) ?_
        refine lv_i2d hx hb dX5_mean_48 ?_
        refine lv_ddiv_any (s := s) (d0 := s.drawn) (Drawn.sameBut.refl s.drawn lw_cs) lw_bits hx hb dX5_mean_49 (fun r1 d1 hal hd1 => ?_)
        refine W.endD (s := s) hd1 ?_
        exact w_d hx hb hr hlocks dX5_mean_50 hS (Nat.le_of_ble_eq_true rfl) (Nat.le_of_ble_eq_true rfl) (by rw [mnX, if_neg (by rw [← ex1]; exact c33), ← ex1]; exact hal) (⟨_, hM, hw⟩)
      · refine lv_dconst0 hx hb dX5_mean_36 ?_
        refine lv_goto (tgt := 50) hx hb dX5_mean_37 (by decide) ?_
        refine W.endD (s := s) (d0 := s.drawn) (Drawn.sameBut.refl s.drawn lw_cs) ?_
        exact w_d hx hb hr hlocks dX5_mean_50 hS (Nat.le_of_ble_eq_true rfl) (Nat.le_of_ble_eq_true rfl) (by rw [mnX, if_pos (by rw [← ex1]; exact c33)]; exact alike_refl _) (⟨_, hM, hw⟩)
    | succ n9 ih9 =>
      intro i hi9 H locs M hI hS x1 ex1 ls hl
      obtain ⟨hM, hw⟩ := hI
      obtain ⟨f1, m1, hf1⟩ := MW.house hw
      obtain ⟨f2, m2, hf2⟩ := MW.joined hw
      obtain ⟨f3, m3, hf3⟩ := MW.spooks hw
      obtain ⟨f4, m4, hf4⟩ := MW.people hw
      obtain ⟨f5, m5, hf5⟩ := MW.numbers hw
      have hlt9 : i < kR σ := by omega
      refine lv_iload_n hx hb dX5_mean_9 rfl (lv_at hl 0 rfl) ?_
      refine lv_aload_n hx hb dX5_mean_10 rfl (lv_at hl 2 rfl) ?_
      refine m_get hx hb hts in_X5_mean_X5 hown hK hM (MW.x hw) rfl 1 (by decide) (by decide +kernel) rfl dX5_mean_11 ?_
      refine lv_icmp_ge (tgt := 32) hx hb dX5_mean_14 (by decide) (fun c9 => absurd c9 (nI_ge hlt9 (by omega))) (fun c14 => ?_)
      refine lv_iload_n hx hb dX5_mean_17 rfl (lv_at hl 1 rfl) ?_
      refine lv_aload_n hx hb dX5_mean_18 rfl (lv_at hl 2 rfl) ?_
      refine lv_iload_n hx hb dX5_mean_19 rfl (lv_at hl 0 rfl) ?_
      refine lv_iconst (v := 3) hx hb dX5_mean_20 (by decide) ?_
      refine m_cV 2 [.int (nI i), .int 3] [.int x1] hx hb hml hown hts hK (c_ro l E A g M σ 0 hw i 3 (by omega) (by omega)) gX5_mean_X5_ro rfl rfl rfl (by decide +kernel) rfl ⟨Nat.le_of_ble_eq_true rfl, Nat.le_of_ble_eq_true rfl⟩ hM (MW.x hw) rfl rfl hM hl.1 (Nat.le_of_ble_eq_true rfl) ⟨Nat.le_of_ble_eq_true rfl, Nat.le_of_ble_eq_true rfl⟩ rfl dX5_mean_21 ?_
      refine lv_iadd hx hb dX5_mean_24 ?_
      refine lv_istore_n (lv' := [(1, .int (x1 + (sRm σ i 3))), (2, .int (nI i)), (0, .ref (g 0))]) hx hb dX5_mean_25 rfl hl (by decide) rfl (fun ls hl => ?_)
      refine lv_iinc (v := nI (i + 1)) (lv' := [(2, .int (nI (i + 1))), (1, .int (x1 + (sRm σ i 3))), (0, .ref (g 0))]) hx hb dX5_mean_26 hl (k := 1) rfl (m_inc _) (by decide) rfl (fun ls hl => ?_)
      refine lv_goto (tgt := 9) hx hb dX5_mean_29 (by decide) ?_
      exact ih9 (i + 1) (by omega) _ _ _ ⟨hM, hw⟩ hS _ (by rw [mnA, ex1]) ls (lv_sub hl [0, 1, 2] rfl)
  exact lp9 (kR σ) 0 (by omega) _ _ _ ⟨hM, hw⟩ hS _ (rfl) ls (lv_sub hl [0, 1, 2] rfl)
