/-! WHAT THE CLASS REFUSES -/
def XE (X : String) : String → State → State → Prop := fun E st t => E = X ∧ va_F (fun _ => False) st t
theorem x_entry {l : Launch} {E : gE} {A : Nat → Prop} {av : List Value} {P : Heap → Prop} {y : MethodName} {ws ws' : List Cond} {rm : Room} {Qc : Array Value → State → Outcome → State → Prop} {XC : String → State → State → Prop} {mc ms : Nat} {free : Addr → Prop} {cc : ByteArray} {maxL : Nat} {ret : Option FieldType}
    (hy : plainName y.cls = true) (hw : ws = Cond.code y cc maxL ret :: ws') (hn : (lg_sl av).length ≤ maxL)
    (body : ∀ (p : Program) (e : Env) (s : State) (m : MethodId) (args : Array Value) (below : List Frame) (meth : Method) (c : Code), p.tables.exec = Jvm.exec → c.code = cc → meth.sig.returnType = ret → c.maxLocals = maxL → (∀ w ∈ ws, w.before args s = true) → s.vm.findClass y.cls = some m.cls → meth.locks = false → meth.name = y.name →
      P s.heap → kK E s → Zx E A s s.heap → (∀ x ∈ c.exceptionTable.toList, False) → ∀ ls : Array Slot, lv_has ls maxL (lv_args 0 av) → W p l e rm s m args below meth c s.heap [] 0 0 (vx_MQ below Qc XC args s mc ms free) (F0 m 0 ls [])) : vx_Met l y ws rm (Pz E A av P) Qc XC mc ms free := by
  refine vx_ofW (cc := cc) (maxL := maxL) (ret := ret) hy hw ?_
  intro p e s m args below meth c s₁ B hml hnt hv
  obtain ⟨rfl, hP, hK, hZ⟩ := hv
  have hl := lv_entry av (n := maxL) hn
  rw [lg_entry_eq]
  exact body p e s m av.toArray below meth c B.exec B.bytes B.returns hml (atoms_spec (ws := ws) B.pre) (findClass_of_methodNamed B.named) B.notSynchronized (name_of_methodNamed B.named B.method).1 hP hK hZ hnt _ hl

theorem x_at37 {E : gE} {A : Nat → Prop} {s : State} {H : Heap} {args : Array Value} (hZ : Zx E A s H) (h1 : ∀ w ∈ (vx_atS RX4 37 "java/lang/IllegalArgumentException" ["java/lang/RuntimeException", "java/lang/Exception"]).filter goodWord, w.before args s = true) : ∀ w ∈ vx_atS RX4 37 "java/lang/IllegalArgumentException" ["java/lang/RuntimeException", "java/lang/Exception"], w.before args s = true :=
  vx_hat h1 (B := [.castable "java/lang/IllegalArgumentException" "java/lang/IllegalArgumentException", .declares (Bundle.initS "java/lang/RuntimeException"), .declares (Bundle.initS "java/lang/Exception"), .declares (Bundle.initS "java/lang/Throwable")]) (by decide +kernel) (vx_c (va_Nw.use rfl (hZ.castE (by simp))) (vx_c (va_Nw.use rfl (hZ.decl (by simp))) (vx_c (va_Nw.use rfl (hZ.decl (by simp))) (vx_c (va_Nw.use rfl (hZ.decl (by simp))) vx_n))))
theorem x_good37 : ∀ w ∈ Cond.classLink RX4 33 "java/lang/IllegalArgumentException" :: Cond.initialized "java/lang/IllegalArgumentException" :: vx_atS RX4 37 "java/lang/IllegalArgumentException" ["java/lang/RuntimeException", "java/lang/Exception"], vx_ot w = true := by decide +kernel

theorem x_at48 {E : gE} {A : Nat → Prop} {s : State} {H : Heap} {args : Array Value} (hZ : Zx E A s H) (h1 : ∀ w ∈ (vx_atS RX4 48 "java/lang/IllegalStateException" ["java/lang/RuntimeException", "java/lang/Exception"]).filter goodWord, w.before args s = true) : ∀ w ∈ vx_atS RX4 48 "java/lang/IllegalStateException" ["java/lang/RuntimeException", "java/lang/Exception"], w.before args s = true :=
  vx_hat h1 (B := [.castable "java/lang/IllegalStateException" "java/lang/IllegalStateException", .declares (Bundle.initS "java/lang/RuntimeException"), .declares (Bundle.initS "java/lang/Exception"), .declares (Bundle.initS "java/lang/Throwable")]) (by decide +kernel) (vx_c (va_Nw.use rfl (hZ.castE (by simp))) (vx_c (va_Nw.use rfl (hZ.decl (by simp))) (vx_c (va_Nw.use rfl (hZ.decl (by simp))) (vx_c (va_Nw.use rfl (hZ.decl (by simp))) vx_n))))
theorem x_good48 : ∀ w ∈ Cond.classLink RX4 44 "java/lang/IllegalStateException" :: Cond.initialized "java/lang/IllegalStateException" :: vx_atS RX4 48 "java/lang/IllegalStateException" ["java/lang/RuntimeException", "java/lang/Exception"], vx_ot w = true := by decide +kernel

theorem x_at66 {E : gE} {A : Nat → Prop} {s : State} {H : Heap} {args : Array Value} (hZ : Zx E A s H) (h1 : ∀ w ∈ (vx_atS RX4 66 "java/lang/IndexOutOfBoundsException" ["java/lang/RuntimeException", "java/lang/Exception"]).filter goodWord, w.before args s = true) : ∀ w ∈ vx_atS RX4 66 "java/lang/IndexOutOfBoundsException" ["java/lang/RuntimeException", "java/lang/Exception"], w.before args s = true :=
  vx_hat h1 (B := [.castable "java/lang/IndexOutOfBoundsException" "java/lang/IndexOutOfBoundsException", .declares (Bundle.initS "java/lang/RuntimeException"), .declares (Bundle.initS "java/lang/Exception"), .declares (Bundle.initS "java/lang/Throwable")]) (by decide +kernel) (vx_c (va_Nw.use rfl (hZ.castE (by simp))) (vx_c (va_Nw.use rfl (hZ.decl (by simp))) (vx_c (va_Nw.use rfl (hZ.decl (by simp))) (vx_c (va_Nw.use rfl (hZ.decl (by simp))) vx_n))))
theorem x_good66 : ∀ w ∈ Cond.classLink RX4 62 "java/lang/IndexOutOfBoundsException" :: Cond.initialized "java/lang/IndexOutOfBoundsException" :: vx_atS RX4 66 "java/lang/IndexOutOfBoundsException" ["java/lang/RuntimeException", "java/lang/Exception"], vx_ot w = true := by decide +kernel
theorem xs_X4_furnish_37 : ∀ w ∈ (vx_atS RX4 37 "java/lang/IllegalArgumentException" ["java/lang/RuntimeException", "java/lang/Exception"]).filter goodWord, w ∈ wsX4_furnish := by decide +kernel
set_option maxHeartbeats 4000000 in
set_option maxRecDepth 100000 in
theorem x_furnish1 (l : Launch) (hl9 : l.stackTraces = false) (E : gE) (A : Nat → Prop) (g : Nat → Nat) (M : gM) (σ : Sg) (hv : VS σ) (hw : CW E g M σ) (xb xc xq : Int32) (hbad : ¬ ((1 ≤ xb ∧ xb ≤ 6) ∧ (0 ≤ xc ∧ xc ≤ 9) ∧ (0 ≤ xq ∧ xq ≤ 100))) : vx_Met l yX4_furnish wsX4_furnish ({ frames := 6, cells := 1, slots := 6, locals := 140 } : Room) (Pz E A [.ref (g 0), .int xb, .int xc, .int xq] (mP E A g M)) (fun _ _ _ _ => False) (XE "java/lang/IllegalArgumentException") 1 6 (fun _ => False) := by
  refine x_entry (by decide) rfl (Nat.le_of_ble_eq_true rfl) ?_
  intro p e s m args below meth c hx hb hr hml hts hown hlocks hin hM hK hZ hnt ls hl
  have hl : lv_has ls 4 [(0, .ref (g 0)), (1, .int xb), (2, .int xc), (3, .int xq)] := hl
  have hown : s.vm.findClass RX4 = some m.cls := hown
  obtain ⟨⟨hR9, hG9, hU9, hD9⟩, -⟩ := id hv
  obtain ⟨mc1, el1, h1, -⟩ := CW.LR hw
  obtain ⟨mc2, el2, h2, -⟩ := CW.LG hw
  obtain ⟨mc3, el3, h3, -⟩ := CW.LU hw
  refine lv_iload_n hx hb dX4_furnish_0 rfl (lv_at hl 1 rfl) ?_
  refine lv_iconst (v := 1) hx hb dX4_furnish_1 (by decide) ?_
  refine lv_bipush (v := 6) hx hb dX4_furnish_2 (by decide) ?_
  refine m_cS 3 [.int xb, .int 1, .int 6] [] hx hb hml hown hts hK (c_within l E A g M xb 1 6) gX4_furnish_X4_within rfl rfl rfl (by decide +kernel) rfl ⟨Nat.le_of_ble_eq_true rfl, Nat.le_of_ble_eq_true rfl⟩ trivial hl.1 (Nat.le_of_ble_eq_true rfl) ⟨Nat.le_of_ble_eq_true rfl, Nat.le_of_ble_eq_true rfl⟩ rfl dX4_furnish_4 ?_
  refine lv_if_eq (tgt := 30) hx hb dX4_furnish_7 (by decide) (fun c7 => ?_) (fun c7 => ?_)
  · have c7 := of_decide_eq_false (bI_f c7)
    obtain ⟨sa9, hsa9⟩ := hZ.txt (q := (35, "no such beds, comfort or least price")) (by decide +kernel)
    exact vx_throwS (A := A) hx hb hl9 (cls := "java/lang/IllegalArgumentException") (names := ["java/lang/RuntimeException", "java/lang/Exception"]) hown (by decide +kernel) (by decide +kernel) (hts (.classLink RX4 33 "java/lang/IllegalArgumentException") (by decide +kernel)) (hts (.initialized "java/lang/IllegalArgumentException") (by decide +kernel)) hsa9 (x_at37 hZ (fun w h => hts w (xs_X4_furnish_37 w h))) x_good37 hZ.2.2.2.1 hZ.2.2.2.2 va_S.rf (hl.1.trans hml.symm) dX4_furnish_30 dX4_furnish_33 dX4_furnish_34 dX4_furnish_36 dX4_furnish_39 (fun x h => (hnt x h).elim) (Nat.le_of_ble_eq_true rfl) (Nat.le_of_ble_eq_true rfl) (Nat.le_of_ble_eq_true rfl) (Nat.le_of_ble_eq_true rfl) hlocks (fun t _ h1 h2 => ⟨rfl, h1, fun q h3 _ => h2 q h3⟩) (fun z h => nomatch h) (Nat.le_of_ble_eq_true rfl) (Nat.le_of_ble_eq_true rfl)
  · have c7 := of_decide_eq_true (bI_t c7)
    refine lv_iload_n hx hb dX4_furnish_10 rfl (lv_at hl 2 rfl) ?_
    refine lv_iconst (v := 0) hx hb dX4_furnish_11 (by decide) ?_
    refine lv_bipush (v := 9) hx hb dX4_furnish_12 (by decide) ?_
    refine m_cS 3 [.int xc, .int 0, .int 9] [] hx hb hml hown hts hK (c_within l E A g M xc 0 9) gX4_furnish_X4_within rfl rfl rfl (by decide +kernel) rfl ⟨Nat.le_of_ble_eq_true rfl, Nat.le_of_ble_eq_true rfl⟩ trivial hl.1 (Nat.le_of_ble_eq_true rfl) ⟨Nat.le_of_ble_eq_true rfl, Nat.le_of_ble_eq_true rfl⟩ rfl dX4_furnish_14 ?_
    refine lv_if_eq (tgt := 30) hx hb dX4_furnish_17 (by decide) (fun c17 => ?_) (fun c17 => ?_)
    · have c17 := of_decide_eq_false (bI_f c17)
      obtain ⟨sa9, hsa9⟩ := hZ.txt (q := (35, "no such beds, comfort or least price")) (by decide +kernel)
      exact vx_throwS (A := A) hx hb hl9 (cls := "java/lang/IllegalArgumentException") (names := ["java/lang/RuntimeException", "java/lang/Exception"]) hown (by decide +kernel) (by decide +kernel) (hts (.classLink RX4 33 "java/lang/IllegalArgumentException") (by decide +kernel)) (hts (.initialized "java/lang/IllegalArgumentException") (by decide +kernel)) hsa9 (x_at37 hZ (fun w h => hts w (xs_X4_furnish_37 w h))) x_good37 hZ.2.2.2.1 hZ.2.2.2.2 va_S.rf (hl.1.trans hml.symm) dX4_furnish_30 dX4_furnish_33 dX4_furnish_34 dX4_furnish_36 dX4_furnish_39 (fun x h => (hnt x h).elim) (Nat.le_of_ble_eq_true rfl) (Nat.le_of_ble_eq_true rfl) (Nat.le_of_ble_eq_true rfl) (Nat.le_of_ble_eq_true rfl) hlocks (fun t _ h1 h2 => ⟨rfl, h1, fun q h3 _ => h2 q h3⟩) (fun z h => nomatch h) (Nat.le_of_ble_eq_true rfl) (Nat.le_of_ble_eq_true rfl)
    · have c17 := of_decide_eq_true (bI_t c17)
      refine lv_iload_n hx hb dX4_furnish_20 rfl (lv_at hl 3 rfl) ?_
      refine lv_iconst (v := 0) hx hb dX4_furnish_21 (by decide) ?_
      refine lv_bipush (v := 100) hx hb dX4_furnish_22 (by decide) ?_
      refine m_cS 3 [.int xq, .int 0, .int 100] [] hx hb hml hown hts hK (c_within l E A g M xq 0 100) gX4_furnish_X4_within rfl rfl rfl (by decide +kernel) rfl ⟨Nat.le_of_ble_eq_true rfl, Nat.le_of_ble_eq_true rfl⟩ trivial hl.1 (Nat.le_of_ble_eq_true rfl) ⟨Nat.le_of_ble_eq_true rfl, Nat.le_of_ble_eq_true rfl⟩ rfl dX4_furnish_24 ?_
      refine lv_if_ne (tgt := 40) hx hb dX4_furnish_27 (by decide) (fun c9 => absurd ⟨c7, c17, of_decide_eq_true (bI_t c9)⟩ hbad) (fun c27 => ?_)
      have c27 := of_decide_eq_false (bI_f c27)
      obtain ⟨sa9, hsa9⟩ := hZ.txt (q := (35, "no such beds, comfort or least price")) (by decide +kernel)
      exact vx_throwS (A := A) hx hb hl9 (cls := "java/lang/IllegalArgumentException") (names := ["java/lang/RuntimeException", "java/lang/Exception"]) hown (by decide +kernel) (by decide +kernel) (hts (.classLink RX4 33 "java/lang/IllegalArgumentException") (by decide +kernel)) (hts (.initialized "java/lang/IllegalArgumentException") (by decide +kernel)) hsa9 (x_at37 hZ (fun w h => hts w (xs_X4_furnish_37 w h))) x_good37 hZ.2.2.2.1 hZ.2.2.2.2 va_S.rf (hl.1.trans hml.symm) dX4_furnish_30 dX4_furnish_33 dX4_furnish_34 dX4_furnish_36 dX4_furnish_39 (fun x h => (hnt x h).elim) (Nat.le_of_ble_eq_true rfl) (Nat.le_of_ble_eq_true rfl) (Nat.le_of_ble_eq_true rfl) (Nat.le_of_ble_eq_true rfl) hlocks (fun t _ h1 h2 => ⟨rfl, h1, fun q h3 _ => h2 q h3⟩) (fun z h => nomatch h) (Nat.le_of_ble_eq_true rfl) (Nat.le_of_ble_eq_true rfl)
theorem xs_X4_furnish_48 : ∀ w ∈ (vx_atS RX4 48 "java/lang/IllegalStateException" ["java/lang/RuntimeException", "java/lang/Exception"]).filter goodWord, w ∈ wsX4_furnish := by decide +kernel
set_option maxHeartbeats 4000000 in
set_option maxRecDepth 100000 in
theorem x_furnish2 (l : Launch) (hl9 : l.stackTraces = false) (E : gE) (A : Nat → Prop) (g : Nat → Nat) (M : gM) (σ : Sg) (hv : VS σ) (hw : CW E g M σ) (xb xc xq : Int32) (hok : ((1 ≤ xb ∧ xb ≤ 6) ∧ (0 ≤ xc ∧ xc ≤ 9) ∧ (0 ≤ xq ∧ xq ≤ 100))) (hfull : kR σ = 10) : vx_Met l yX4_furnish wsX4_furnish ({ frames := 6, cells := 1, slots := 6, locals := 140 } : Room) (Pz E A [.ref (g 0), .int xb, .int xc, .int xq] (mP E A g M)) (fun _ _ _ _ => False) (XE "java/lang/IllegalStateException") 1 6 (fun _ => False) := by
  refine x_entry (by decide) rfl (Nat.le_of_ble_eq_true rfl) ?_
  intro p e s m args below meth c hx hb hr hml hts hown hlocks hin hM hK hZ hnt ls hl
  have hl : lv_has ls 4 [(0, .ref (g 0)), (1, .int xb), (2, .int xc), (3, .int xq)] := hl
  have hown : s.vm.findClass RX4 = some m.cls := hown
  obtain ⟨⟨hR9, hG9, hU9, hD9⟩, -⟩ := id hv
  obtain ⟨mc1, el1, h1, -⟩ := CW.LR hw
  obtain ⟨mc2, el2, h2, -⟩ := CW.LG hw
  obtain ⟨mc3, el3, h3, -⟩ := CW.LU hw
  refine lv_iload_n hx hb dX4_furnish_0 rfl (lv_at hl 1 rfl) ?_
  refine lv_iconst (v := 1) hx hb dX4_furnish_1 (by decide) ?_
  refine lv_bipush (v := 6) hx hb dX4_furnish_2 (by decide) ?_
  refine m_cS 3 [.int xb, .int 1, .int 6] [] hx hb hml hown hts hK (c_withinY l E A g M xb 1 6 (hok.1)) gX4_furnish_X4_within rfl rfl rfl (by decide +kernel) rfl ⟨Nat.le_of_ble_eq_true rfl, Nat.le_of_ble_eq_true rfl⟩ trivial hl.1 (Nat.le_of_ble_eq_true rfl) ⟨Nat.le_of_ble_eq_true rfl, Nat.le_of_ble_eq_true rfl⟩ rfl dX4_furnish_4 ?_
  refine lv_if_eq (tgt := 30) hx hb dX4_furnish_7 (by decide) (fun c9 => absurd c9 (by decide)) (fun c9 => ?_)
  refine lv_iload_n hx hb dX4_furnish_10 rfl (lv_at hl 2 rfl) ?_
  refine lv_iconst (v := 0) hx hb dX4_furnish_11 (by decide) ?_
  refine lv_bipush (v := 9) hx hb dX4_furnish_12 (by decide) ?_
  refine m_cS 3 [.int xc, .int 0, .int 9] [] hx hb hml hown hts hK (c_withinY l E A g M xc 0 9 (hok.2.1)) gX4_furnish_X4_within rfl rfl rfl (by decide +kernel) rfl ⟨Nat.le_of_ble_eq_true rfl, Nat.le_of_ble_eq_true rfl⟩ trivial hl.1 (Nat.le_of_ble_eq_true rfl) ⟨Nat.le_of_ble_eq_true rfl, Nat.le_of_ble_eq_true rfl⟩ rfl dX4_furnish_14 ?_
  refine lv_if_eq (tgt := 30) hx hb dX4_furnish_17 (by decide) (fun c9 => absurd c9 (by decide)) (fun c9 => ?_)
  refine lv_iload_n hx hb dX4_furnish_20 rfl (lv_at hl 3 rfl) ?_
  refine lv_iconst (v := 0) hx hb dX4_furnish_21 (by decide) ?_
  refine lv_bipush (v := 100) hx hb dX4_furnish_22 (by decide) ?_
  refine m_cS 3 [.int xq, .int 0, .int 100] [] hx hb hml hown hts hK (c_withinY l E A g M xq 0 100 (hok.2.2)) gX4_furnish_X4_within rfl rfl rfl (by decide +kernel) rfl ⟨Nat.le_of_ble_eq_true rfl, Nat.le_of_ble_eq_true rfl⟩ trivial hl.1 (Nat.le_of_ble_eq_true rfl) ⟨Nat.le_of_ble_eq_true rfl, Nat.le_of_ble_eq_true rfl⟩ rfl dX4_furnish_24 ?_
  refine lv_if_ne (tgt := 40) hx hb dX4_furnish_27 (by decide) (fun c9 => ?_) (fun c9 => absurd c9 (by decide))
  refine lv_aload_n hx hb dX4_furnish_40 rfl (lv_at hl 0 rfl) ?_
  refine m_get hx hb hts in_X4_furnish_X4 hown hK hM (CW.x hw) rfl 0 (by decide) (by decide +kernel) rfl dX4_furnish_41 ?_
  refine m_cV 0 [] [] hx hb hml hown hts hK (c_size l E A g M (CW.LR hw)) gX4_furnish_Jx4a65c_size_8abf5 rfl rfl rfl (by decide +kernel) rfl ⟨Nat.le_of_ble_eq_true rfl, Nat.le_of_ble_eq_true rfl⟩ hM h1 rfl rfl hM hl.1 (Nat.le_of_ble_eq_true rfl) ⟨Nat.le_of_ble_eq_true rfl, Nat.le_of_ble_eq_true rfl⟩ rfl dX4_furnish_44 ?_
  refine lv_bipush (v := 10) hx hb dX4_furnish_47 (by decide) ?_
  refine lv_icmp_lt (tgt := 62) hx hb dX4_furnish_49 (by decide) (fun c9 => absurd c9 (by rw [hfull]; decide)) (fun c49 => ?_)
  obtain ⟨sa9, hsa9⟩ := hZ.txt (q := (46, "there is no place for another room")) (by decide +kernel)
  exact vx_throwS (A := A) hx hb hl9 (cls := "java/lang/IllegalStateException") (names := ["java/lang/RuntimeException", "java/lang/Exception"]) hown (by decide +kernel) (by decide +kernel) (hts (.classLink RX4 44 "java/lang/IllegalStateException") (by decide +kernel)) (hts (.initialized "java/lang/IllegalStateException") (by decide +kernel)) hsa9 (x_at48 hZ (fun w h => hts w (xs_X4_furnish_48 w h))) x_good48 hZ.2.2.2.1 hZ.2.2.2.2 va_S.rf (hl.1.trans hml.symm) dX4_furnish_52 dX4_furnish_55 dX4_furnish_56 dX4_furnish_58 dX4_furnish_61 (fun x h => (hnt x h).elim) (Nat.le_of_ble_eq_true rfl) (Nat.le_of_ble_eq_true rfl) (Nat.le_of_ble_eq_true rfl) (Nat.le_of_ble_eq_true rfl) hlocks (fun t _ h1 h2 => ⟨rfl, h1, fun q h3 _ => h2 q h3⟩) (fun z h => nomatch h) (Nat.le_of_ble_eq_true rfl) (Nat.le_of_ble_eq_true rfl)
theorem xs_X4_come_37 : ∀ w ∈ (vx_atS RX4 37 "java/lang/IllegalArgumentException" ["java/lang/RuntimeException", "java/lang/Exception"]).filter goodWord, w ∈ wsX4_come := by decide +kernel
set_option maxHeartbeats 4000000 in
set_option maxRecDepth 100000 in
theorem x_come1 (l : Launch) (hl9 : l.stackTraces = false) (E : gE) (A : Nat → Prop) (g : Nat → Nat) (M : gM) (σ : Sg) (hv : VS σ) (hw : CW E g M σ) (xc xn xv : Int32) (hbad : ¬ ((0 ≤ xc ∧ xc ≤ 1000) ∧ (1 ≤ xn ∧ xn ≤ 6) ∧ ((-9) ≤ xv ∧ xv ≤ 90))) : vx_Met l yX4_come wsX4_come ({ frames := 6, cells := 1, slots := 6, locals := 140 } : Room) (Pz E A [.ref (g 0), .int xc, .int xn, .int xv] (mP E A g M)) (fun _ _ _ _ => False) (XE "java/lang/IllegalArgumentException") 1 6 (fun _ => False) := by
  refine x_entry (by decide) rfl (Nat.le_of_ble_eq_true rfl) ?_
  intro p e s m args below meth c hx hb hr hml hts hown hlocks hin hM hK hZ hnt ls hl
  have hl : lv_has ls 4 [(0, .ref (g 0)), (1, .int xc), (2, .int xn), (3, .int xv)] := hl
  have hown : s.vm.findClass RX4 = some m.cls := hown
  obtain ⟨⟨hR9, hG9, hU9, hD9⟩, -⟩ := id hv
  obtain ⟨mc1, el1, h1, -⟩ := CW.LR hw
  obtain ⟨mc2, el2, h2, -⟩ := CW.LG hw
  obtain ⟨mc3, el3, h3, -⟩ := CW.LU hw
  refine lv_iload_n hx hb dX4_come_0 rfl (lv_at hl 1 rfl) ?_
  refine lv_iconst (v := 0) hx hb dX4_come_1 (by decide) ?_
  refine lv_sipush (v := 1000) hx hb dX4_come_2 (by decide) ?_
  refine m_cS 3 [.int xc, .int 0, .int 1000] [] hx hb hml hown hts hK (c_within l E A g M xc 0 1000) gX4_come_X4_within rfl rfl rfl (by decide +kernel) rfl ⟨Nat.le_of_ble_eq_true rfl, Nat.le_of_ble_eq_true rfl⟩ trivial hl.1 (Nat.le_of_ble_eq_true rfl) ⟨Nat.le_of_ble_eq_true rfl, Nat.le_of_ble_eq_true rfl⟩ rfl dX4_come_5 ?_
  refine lv_if_eq (tgt := 32) hx hb dX4_come_8 (by decide) (fun c8 => ?_) (fun c8 => ?_)
  · have c8 := of_decide_eq_false (bI_f c8)
    obtain ⟨sa9, hsa9⟩ := hZ.txt (q := (141, "no such coins, beds or nerve")) (by decide +kernel)
    exact vx_throwS (A := A) hx hb hl9 (cls := "java/lang/IllegalArgumentException") (names := ["java/lang/RuntimeException", "java/lang/Exception"]) hown (by decide +kernel) (by decide +kernel) (hts (.classLink RX4 33 "java/lang/IllegalArgumentException") (by decide +kernel)) (hts (.initialized "java/lang/IllegalArgumentException") (by decide +kernel)) hsa9 (x_at37 hZ (fun w h => hts w (xs_X4_come_37 w h))) x_good37 hZ.2.2.2.1 hZ.2.2.2.2 va_S.rf (hl.1.trans hml.symm) dX4_come_32 dX4_come_35 dX4_come_36 dX4_come_38 dX4_come_41 (fun x h => (hnt x h).elim) (Nat.le_of_ble_eq_true rfl) (Nat.le_of_ble_eq_true rfl) (Nat.le_of_ble_eq_true rfl) (Nat.le_of_ble_eq_true rfl) hlocks (fun t _ h1 h2 => ⟨rfl, h1, fun q h3 _ => h2 q h3⟩) (fun z h => nomatch h) (Nat.le_of_ble_eq_true rfl) (Nat.le_of_ble_eq_true rfl)
  · have c8 := of_decide_eq_true (bI_t c8)
    refine lv_iload_n hx hb dX4_come_11 rfl (lv_at hl 2 rfl) ?_
    refine lv_iconst (v := 1) hx hb dX4_come_12 (by decide) ?_
    refine lv_bipush (v := 6) hx hb dX4_come_13 (by decide) ?_
    refine m_cS 3 [.int xn, .int 1, .int 6] [] hx hb hml hown hts hK (c_within l E A g M xn 1 6) gX4_come_X4_within rfl rfl rfl (by decide +kernel) rfl ⟨Nat.le_of_ble_eq_true rfl, Nat.le_of_ble_eq_true rfl⟩ trivial hl.1 (Nat.le_of_ble_eq_true rfl) ⟨Nat.le_of_ble_eq_true rfl, Nat.le_of_ble_eq_true rfl⟩ rfl dX4_come_15 ?_
    refine lv_if_eq (tgt := 32) hx hb dX4_come_18 (by decide) (fun c18 => ?_) (fun c18 => ?_)
    · have c18 := of_decide_eq_false (bI_f c18)
      obtain ⟨sa9, hsa9⟩ := hZ.txt (q := (141, "no such coins, beds or nerve")) (by decide +kernel)
      exact vx_throwS (A := A) hx hb hl9 (cls := "java/lang/IllegalArgumentException") (names := ["java/lang/RuntimeException", "java/lang/Exception"]) hown (by decide +kernel) (by decide +kernel) (hts (.classLink RX4 33 "java/lang/IllegalArgumentException") (by decide +kernel)) (hts (.initialized "java/lang/IllegalArgumentException") (by decide +kernel)) hsa9 (x_at37 hZ (fun w h => hts w (xs_X4_come_37 w h))) x_good37 hZ.2.2.2.1 hZ.2.2.2.2 va_S.rf (hl.1.trans hml.symm) dX4_come_32 dX4_come_35 dX4_come_36 dX4_come_38 dX4_come_41 (fun x h => (hnt x h).elim) (Nat.le_of_ble_eq_true rfl) (Nat.le_of_ble_eq_true rfl) (Nat.le_of_ble_eq_true rfl) (Nat.le_of_ble_eq_true rfl) hlocks (fun t _ h1 h2 => ⟨rfl, h1, fun q h3 _ => h2 q h3⟩) (fun z h => nomatch h) (Nat.le_of_ble_eq_true rfl) (Nat.le_of_ble_eq_true rfl)
    · have c18 := of_decide_eq_true (bI_t c18)
      refine lv_iload_n hx hb dX4_come_21 rfl (lv_at hl 3 rfl) ?_
      refine lv_bipush (v := (-9)) hx hb dX4_come_22 (by decide) ?_
      refine lv_bipush (v := 90) hx hb dX4_come_24 (by decide) ?_
      refine m_cS 3 [.int xv, .int (-9), .int 90] [] hx hb hml hown hts hK (c_within l E A g M xv (-9) 90) gX4_come_X4_within rfl rfl rfl (by decide +kernel) rfl ⟨Nat.le_of_ble_eq_true rfl, Nat.le_of_ble_eq_true rfl⟩ trivial hl.1 (Nat.le_of_ble_eq_true rfl) ⟨Nat.le_of_ble_eq_true rfl, Nat.le_of_ble_eq_true rfl⟩ rfl dX4_come_26 ?_
      refine lv_if_ne (tgt := 42) hx hb dX4_come_29 (by decide) (fun c9 => absurd ⟨c8, c18, of_decide_eq_true (bI_t c9)⟩ hbad) (fun c29 => ?_)
      have c29 := of_decide_eq_false (bI_f c29)
      obtain ⟨sa9, hsa9⟩ := hZ.txt (q := (141, "no such coins, beds or nerve")) (by decide +kernel)
      exact vx_throwS (A := A) hx hb hl9 (cls := "java/lang/IllegalArgumentException") (names := ["java/lang/RuntimeException", "java/lang/Exception"]) hown (by decide +kernel) (by decide +kernel) (hts (.classLink RX4 33 "java/lang/IllegalArgumentException") (by decide +kernel)) (hts (.initialized "java/lang/IllegalArgumentException") (by decide +kernel)) hsa9 (x_at37 hZ (fun w h => hts w (xs_X4_come_37 w h))) x_good37 hZ.2.2.2.1 hZ.2.2.2.2 va_S.rf (hl.1.trans hml.symm) dX4_come_32 dX4_come_35 dX4_come_36 dX4_come_38 dX4_come_41 (fun x h => (hnt x h).elim) (Nat.le_of_ble_eq_true rfl) (Nat.le_of_ble_eq_true rfl) (Nat.le_of_ble_eq_true rfl) (Nat.le_of_ble_eq_true rfl) hlocks (fun t _ h1 h2 => ⟨rfl, h1, fun q h3 _ => h2 q h3⟩) (fun z h => nomatch h) (Nat.le_of_ble_eq_true rfl) (Nat.le_of_ble_eq_true rfl)
theorem xs_X4_come_48 : ∀ w ∈ (vx_atS RX4 48 "java/lang/IllegalStateException" ["java/lang/RuntimeException", "java/lang/Exception"]).filter goodWord, w ∈ wsX4_come := by decide +kernel
set_option maxHeartbeats 4000000 in
set_option maxRecDepth 100000 in
theorem x_come2 (l : Launch) (hl9 : l.stackTraces = false) (E : gE) (A : Nat → Prop) (g : Nat → Nat) (M : gM) (σ : Sg) (hv : VS σ) (hw : CW E g M σ) (xc xn xv : Int32) (hok : ((0 ≤ xc ∧ xc ≤ 1000) ∧ (1 ≤ xn ∧ xn ≤ 6) ∧ ((-9) ≤ xv ∧ xv ≤ 90))) (hfull : kU σ = 12) : vx_Met l yX4_come wsX4_come ({ frames := 6, cells := 1, slots := 6, locals := 140 } : Room) (Pz E A [.ref (g 0), .int xc, .int xn, .int xv] (mP E A g M)) (fun _ _ _ _ => False) (XE "java/lang/IllegalStateException") 1 6 (fun _ => False) := by
  refine x_entry (by decide) rfl (Nat.le_of_ble_eq_true rfl) ?_
  intro p e s m args below meth c hx hb hr hml hts hown hlocks hin hM hK hZ hnt ls hl
  have hl : lv_has ls 4 [(0, .ref (g 0)), (1, .int xc), (2, .int xn), (3, .int xv)] := hl
  have hown : s.vm.findClass RX4 = some m.cls := hown
  obtain ⟨⟨hR9, hG9, hU9, hD9⟩, -⟩ := id hv
  obtain ⟨mc1, el1, h1, -⟩ := CW.LR hw
  obtain ⟨mc2, el2, h2, -⟩ := CW.LG hw
  obtain ⟨mc3, el3, h3, -⟩ := CW.LU hw
  refine lv_iload_n hx hb dX4_come_0 rfl (lv_at hl 1 rfl) ?_
  refine lv_iconst (v := 0) hx hb dX4_come_1 (by decide) ?_
  refine lv_sipush (v := 1000) hx hb dX4_come_2 (by decide) ?_
  refine m_cS 3 [.int xc, .int 0, .int 1000] [] hx hb hml hown hts hK (c_withinY l E A g M xc 0 1000 (hok.1)) gX4_come_X4_within rfl rfl rfl (by decide +kernel) rfl ⟨Nat.le_of_ble_eq_true rfl, Nat.le_of_ble_eq_true rfl⟩ trivial hl.1 (Nat.le_of_ble_eq_true rfl) ⟨Nat.le_of_ble_eq_true rfl, Nat.le_of_ble_eq_true rfl⟩ rfl dX4_come_5 ?_
  refine lv_if_eq (tgt := 32) hx hb dX4_come_8 (by decide) (fun c9 => absurd c9 (by decide)) (fun c9 => ?_)
  refine lv_iload_n hx hb dX4_come_11 rfl (lv_at hl 2 rfl) ?_
  refine lv_iconst (v := 1) hx hb dX4_come_12 (by decide) ?_
  refine lv_bipush (v := 6) hx hb dX4_come_13 (by decide) ?_
  refine m_cS 3 [.int xn, .int 1, .int 6] [] hx hb hml hown hts hK (c_withinY l E A g M xn 1 6 (hok.2.1)) gX4_come_X4_within rfl rfl rfl (by decide +kernel) rfl ⟨Nat.le_of_ble_eq_true rfl, Nat.le_of_ble_eq_true rfl⟩ trivial hl.1 (Nat.le_of_ble_eq_true rfl) ⟨Nat.le_of_ble_eq_true rfl, Nat.le_of_ble_eq_true rfl⟩ rfl dX4_come_15 ?_
  refine lv_if_eq (tgt := 32) hx hb dX4_come_18 (by decide) (fun c9 => absurd c9 (by decide)) (fun c9 => ?_)
  refine lv_iload_n hx hb dX4_come_21 rfl (lv_at hl 3 rfl) ?_
  refine lv_bipush (v := (-9)) hx hb dX4_come_22 (by decide) ?_
  refine lv_bipush (v := 90) hx hb dX4_come_24 (by decide) ?_
  refine m_cS 3 [.int xv, .int (-9), .int 90] [] hx hb hml hown hts hK (c_withinY l E A g M xv (-9) 90 (hok.2.2)) gX4_come_X4_within rfl rfl rfl (by decide +kernel) rfl ⟨Nat.le_of_ble_eq_true rfl, Nat.le_of_ble_eq_true rfl⟩ trivial hl.1 (Nat.le_of_ble_eq_true rfl) ⟨Nat.le_of_ble_eq_true rfl, Nat.le_of_ble_eq_true rfl⟩ rfl dX4_come_26 ?_
  refine lv_if_ne (tgt := 42) hx hb dX4_come_29 (by decide) (fun c9 => ?_) (fun c9 => absurd c9 (by decide))
  refine lv_aload_n hx hb dX4_come_42 rfl (lv_at hl 0 rfl) ?_
  refine m_get hx hb hts in_X4_come_X4 hown hK hM (CW.x hw) rfl 2 (by decide) (by decide +kernel) rfl dX4_come_43 ?_
  refine m_cV 0 [] [] hx hb hml hown hts hK (c_size l E A g M (CW.LU hw)) gX4_come_Jx4a65c_size_8abf5 rfl rfl rfl (by decide +kernel) rfl ⟨Nat.le_of_ble_eq_true rfl, Nat.le_of_ble_eq_true rfl⟩ hM h3 rfl rfl hM hl.1 (Nat.le_of_ble_eq_true rfl) ⟨Nat.le_of_ble_eq_true rfl, Nat.le_of_ble_eq_true rfl⟩ rfl dX4_come_46 ?_
  refine lv_bipush (v := 12) hx hb dX4_come_49 (by decide) ?_
  refine lv_icmp_lt (tgt := 64) hx hb dX4_come_51 (by decide) (fun c9 => absurd c9 (by rw [hfull]; decide)) (fun c51 => ?_)
  obtain ⟨sa9, hsa9⟩ := hZ.txt (q := (143, "there is no place for another guest")) (by decide +kernel)
  exact vx_throwS (A := A) hx hb hl9 (cls := "java/lang/IllegalStateException") (names := ["java/lang/RuntimeException", "java/lang/Exception"]) hown (by decide +kernel) (by decide +kernel) (hts (.classLink RX4 44 "java/lang/IllegalStateException") (by decide +kernel)) (hts (.initialized "java/lang/IllegalStateException") (by decide +kernel)) hsa9 (x_at48 hZ (fun w h => hts w (xs_X4_come_48 w h))) x_good48 hZ.2.2.2.1 hZ.2.2.2.2 va_S.rf (hl.1.trans hml.symm) dX4_come_54 dX4_come_57 dX4_come_58 dX4_come_60 dX4_come_63 (fun x h => (hnt x h).elim) (Nat.le_of_ble_eq_true rfl) (Nat.le_of_ble_eq_true rfl) (Nat.le_of_ble_eq_true rfl) (Nat.le_of_ble_eq_true rfl) hlocks (fun t _ h1 h2 => ⟨rfl, h1, fun q h3 _ => h2 q h3⟩) (fun z h => nomatch h) (Nat.le_of_ble_eq_true rfl) (Nat.le_of_ble_eq_true rfl)
theorem xs_X4_door_66 : ∀ w ∈ (vx_atS RX4 66 "java/lang/IndexOutOfBoundsException" ["java/lang/RuntimeException", "java/lang/Exception"]).filter goodWord, w ∈ wsX4_door := by decide +kernel
set_option maxHeartbeats 4000000 in
set_option maxRecDepth 100000 in
theorem x_door1 (l : Launch) (hl9 : l.stackTraces = false) (E : gE) (A : Nat → Prop) (g : Nat → Nat) (M : gM) (σ : Sg) (hv : VS σ) (hw : CW E g M σ) (x y : Int32) (hbad : ¬ ((0 ≤ x ∧ x < nI (kR σ)) ∧ (0 ≤ y ∧ y < nI (kR σ)))) : vx_Met l yX4_door wsX4_door ({ frames := 6, cells := 1, slots := 6, locals := 140 } : Room) (Pz E A [.ref (g 0), .int x, .int y] (mP E A g M)) (fun _ _ _ _ => False) (XE "java/lang/IndexOutOfBoundsException") 1 6 (fun _ => False) := by
  refine x_entry (by decide) rfl (Nat.le_of_ble_eq_true rfl) ?_
  intro p e s m args below meth c hx hb hr hml hts hown hlocks hin hM hK hZ hnt ls hl
  have hl : lv_has ls 5 [(0, .ref (g 0)), (1, .int x), (2, .int y)] := hl
  have hown : s.vm.findClass RX4 = some m.cls := hown
  obtain ⟨⟨hR9, hG9, hU9, hD9⟩, -⟩ := id hv
  obtain ⟨mc1, el1, h1, -⟩ := CW.LR hw
  obtain ⟨mc2, el2, h2, -⟩ := CW.LG hw
  obtain ⟨mc3, el3, h3, -⟩ := CW.LU hw
  refine lv_aload_n hx hb dX4_door_0 rfl (lv_at hl 0 rfl) ?_
  refine lv_iload_n hx hb dX4_door_1 rfl (lv_at hl 1 rfl) ?_
  refine m_cV 1 [.int x] [] hx hb hml hown hts hK (c_isRoom l E A g M σ hv hw x) gX4_door_X4_isRoom rfl rfl rfl (by decide +kernel) rfl ⟨Nat.le_of_ble_eq_true rfl, Nat.le_of_ble_eq_true rfl⟩ hM (CW.x hw) rfl rfl hM hl.1 (Nat.le_of_ble_eq_true rfl) ⟨Nat.le_of_ble_eq_true rfl, Nat.le_of_ble_eq_true rfl⟩ rfl dX4_door_2 ?_
  refine lv_if_eq (tgt := 16) hx hb dX4_door_5 (by decide) (fun c5 => ?_) (fun c5 => ?_)
  · have c5 := of_decide_eq_false (bI_f c5)
    obtain ⟨sa9, hsa9⟩ := hZ.txt (q := (64, "no such room")) (by decide +kernel)
    exact vx_throwS (A := A) hx hb hl9 (cls := "java/lang/IndexOutOfBoundsException") (names := ["java/lang/RuntimeException", "java/lang/Exception"]) hown (by decide +kernel) (by decide +kernel) (hts (.classLink RX4 62 "java/lang/IndexOutOfBoundsException") (by decide +kernel)) (hts (.initialized "java/lang/IndexOutOfBoundsException") (by decide +kernel)) hsa9 (x_at66 hZ (fun w h => hts w (xs_X4_door_66 w h))) x_good66 hZ.2.2.2.1 hZ.2.2.2.2 va_S.rf (hl.1.trans hml.symm) dX4_door_16 dX4_door_19 dX4_door_20 dX4_door_22 dX4_door_25 (fun x h => (hnt x h).elim) (Nat.le_of_ble_eq_true rfl) (Nat.le_of_ble_eq_true rfl) (Nat.le_of_ble_eq_true rfl) (Nat.le_of_ble_eq_true rfl) hlocks (fun t _ h1 h2 => ⟨rfl, h1, fun q h3 _ => h2 q h3⟩) (fun z h => nomatch h) (Nat.le_of_ble_eq_true rfl) (Nat.le_of_ble_eq_true rfl)
  · have c5 := of_decide_eq_true (bI_t c5)
    refine lv_aload_n hx hb dX4_door_8 rfl (lv_at hl 0 rfl) ?_
    refine lv_iload_n hx hb dX4_door_9 rfl (lv_at hl 2 rfl) ?_
    refine m_cV 1 [.int y] [] hx hb hml hown hts hK (c_isRoom l E A g M σ hv hw y) gX4_door_X4_isRoom rfl rfl rfl (by decide +kernel) rfl ⟨Nat.le_of_ble_eq_true rfl, Nat.le_of_ble_eq_true rfl⟩ hM (CW.x hw) rfl rfl hM hl.1 (Nat.le_of_ble_eq_true rfl) ⟨Nat.le_of_ble_eq_true rfl, Nat.le_of_ble_eq_true rfl⟩ rfl dX4_door_10 ?_
    refine lv_if_ne (tgt := 26) hx hb dX4_door_13 (by decide) (fun c9 => absurd ⟨c5, of_decide_eq_true (bI_t c9)⟩ hbad) (fun c13 => ?_)
    have c13 := of_decide_eq_false (bI_f c13)
    obtain ⟨sa9, hsa9⟩ := hZ.txt (q := (64, "no such room")) (by decide +kernel)
    exact vx_throwS (A := A) hx hb hl9 (cls := "java/lang/IndexOutOfBoundsException") (names := ["java/lang/RuntimeException", "java/lang/Exception"]) hown (by decide +kernel) (by decide +kernel) (hts (.classLink RX4 62 "java/lang/IndexOutOfBoundsException") (by decide +kernel)) (hts (.initialized "java/lang/IndexOutOfBoundsException") (by decide +kernel)) hsa9 (x_at66 hZ (fun w h => hts w (xs_X4_door_66 w h))) x_good66 hZ.2.2.2.1 hZ.2.2.2.2 va_S.rf (hl.1.trans hml.symm) dX4_door_16 dX4_door_19 dX4_door_20 dX4_door_22 dX4_door_25 (fun x h => (hnt x h).elim) (Nat.le_of_ble_eq_true rfl) (Nat.le_of_ble_eq_true rfl) (Nat.le_of_ble_eq_true rfl) (Nat.le_of_ble_eq_true rfl) hlocks (fun t _ h1 h2 => ⟨rfl, h1, fun q h3 _ => h2 q h3⟩) (fun z h => nomatch h) (Nat.le_of_ble_eq_true rfl) (Nat.le_of_ble_eq_true rfl)
theorem xs_X4_door_37 : ∀ w ∈ (vx_atS RX4 37 "java/lang/IllegalArgumentException" ["java/lang/RuntimeException", "java/lang/Exception"]).filter goodWord, w ∈ wsX4_door := by decide +kernel
set_option maxHeartbeats 4000000 in
set_option maxRecDepth 100000 in
theorem x_door2 (l : Launch) (hl9 : l.stackTraces = false) (E : gE) (A : Nat → Prop) (g : Nat → Nat) (M : gM) (σ : Sg) (hv : VS σ) (hw : CW E g M σ) (a : Nat) (ha : a < kR σ) : vx_Met l yX4_door wsX4_door ({ frames := 6, cells := 1, slots := 6, locals := 140 } : Room) (Pz E A [.ref (g 0), .int (nI a), .int (nI a)] (mP E A g M)) (fun _ _ _ _ => False) (XE "java/lang/IllegalArgumentException") 1 6 (fun _ => False) := by
  refine x_entry (by decide) rfl (Nat.le_of_ble_eq_true rfl) ?_
  intro p e s m args below meth c hx hb hr hml hts hown hlocks hin hM hK hZ hnt ls hl
  have hl : lv_has ls 5 [(0, .ref (g 0)), (1, .int (nI a)), (2, .int (nI a))] := hl
  have hown : s.vm.findClass RX4 = some m.cls := hown
  obtain ⟨⟨hR9, hG9, hU9, hD9⟩, -⟩ := id hv
  obtain ⟨mc1, el1, h1, -⟩ := CW.LR hw
  obtain ⟨mc2, el2, h2, -⟩ := CW.LG hw
  obtain ⟨mc3, el3, h3, -⟩ := CW.LU hw
  refine lv_aload_n hx hb dX4_door_0 rfl (lv_at hl 0 rfl) ?_
  refine lv_iload_n hx hb dX4_door_1 rfl (lv_at hl 1 rfl) ?_
  refine m_cV 1 [.int (nI a)] [] hx hb hml hown hts hK (c_isRoomY l E A g M σ hv hw a (by omega)) gX4_door_X4_isRoom rfl rfl rfl (by decide +kernel) rfl ⟨Nat.le_of_ble_eq_true rfl, Nat.le_of_ble_eq_true rfl⟩ hM (CW.x hw) rfl rfl hM hl.1 (Nat.le_of_ble_eq_true rfl) ⟨Nat.le_of_ble_eq_true rfl, Nat.le_of_ble_eq_true rfl⟩ rfl dX4_door_2 ?_
  refine lv_if_eq (tgt := 16) hx hb dX4_door_5 (by decide) (fun c9 => absurd c9 (by decide)) (fun c9 => ?_)
  refine lv_aload_n hx hb dX4_door_8 rfl (lv_at hl 0 rfl) ?_
  refine lv_iload_n hx hb dX4_door_9 rfl (lv_at hl 2 rfl) ?_
  refine m_cV 1 [.int (nI a)] [] hx hb hml hown hts hK (c_isRoomY l E A g M σ hv hw a (by omega)) gX4_door_X4_isRoom rfl rfl rfl (by decide +kernel) rfl ⟨Nat.le_of_ble_eq_true rfl, Nat.le_of_ble_eq_true rfl⟩ hM (CW.x hw) rfl rfl hM hl.1 (Nat.le_of_ble_eq_true rfl) ⟨Nat.le_of_ble_eq_true rfl, Nat.le_of_ble_eq_true rfl⟩ rfl dX4_door_10 ?_
  refine lv_if_ne (tgt := 26) hx hb dX4_door_13 (by decide) (fun c9 => ?_) (fun c9 => absurd c9 (by decide))
  refine lv_iload_n hx hb dX4_door_26 rfl (lv_at hl 1 rfl) ?_
  refine lv_iload_n hx hb dX4_door_27 rfl (lv_at hl 2 rfl) ?_
  refine lv_icmp_ne (tgt := 41) hx hb dX4_door_28 (by decide) (fun c9 => absurd rfl c9) (fun c28 => ?_)
  obtain ⟨sa9, hsa9⟩ := hZ.txt (q := (67, "a door joins two rooms")) (by decide +kernel)
  exact vx_throwS (A := A) hx hb hl9 (cls := "java/lang/IllegalArgumentException") (names := ["java/lang/RuntimeException", "java/lang/Exception"]) hown (by decide +kernel) (by decide +kernel) (hts (.classLink RX4 33 "java/lang/IllegalArgumentException") (by decide +kernel)) (hts (.initialized "java/lang/IllegalArgumentException") (by decide +kernel)) hsa9 (x_at37 hZ (fun w h => hts w (xs_X4_door_37 w h))) x_good37 hZ.2.2.2.1 hZ.2.2.2.2 va_S.rf (hl.1.trans hml.symm) dX4_door_31 dX4_door_34 dX4_door_35 dX4_door_37 dX4_door_40 (fun x h => (hnt x h).elim) (Nat.le_of_ble_eq_true rfl) (Nat.le_of_ble_eq_true rfl) (Nat.le_of_ble_eq_true rfl) (Nat.le_of_ble_eq_true rfl) hlocks (fun t _ h1 h2 => ⟨rfl, h1, fun q h3 _ => h2 q h3⟩) (fun z h => nomatch h) (Nat.le_of_ble_eq_true rfl) (Nat.le_of_ble_eq_true rfl)
theorem xs_X4_door_48 : ∀ w ∈ (vx_atS RX4 48 "java/lang/IllegalStateException" ["java/lang/RuntimeException", "java/lang/Exception"]).filter goodWord, w ∈ wsX4_door := by decide +kernel
set_option maxHeartbeats 4000000 in
set_option maxRecDepth 100000 in
theorem x_door3 (l : Launch) (hl9 : l.stackTraces = false) (E : gE) (A : Nat → Prop) (g : Nat → Nat) (M : gM) (σ : Sg) (hv : VS σ) (hw : CW E g M σ) (a b : Nat) (ha : a < kR σ) (hb9 : b < kR σ) (hab : ¬ a = b) (hbit : bitAt (sJn σ a) b = false) (hfull : kD σ = 20) : vx_Met l yX4_door wsX4_door ({ frames := 6, cells := 1, slots := 6, locals := 140 } : Room) (Pz E A [.ref (g 0), .int (nI a), .int (nI b)] (mP E A g M)) (fun _ _ _ _ => False) (XE "java/lang/IllegalStateException") 1 6 (fun _ => False) := by
  refine x_entry (by decide) rfl (Nat.le_of_ble_eq_true rfl) ?_
  intro p e s m args below meth c hx hb hr hml hts hown hlocks hin hM hK hZ hnt ls hl
  have hl : lv_has ls 5 [(0, .ref (g 0)), (1, .int (nI a)), (2, .int (nI b))] := hl
  have hown : s.vm.findClass RX4 = some m.cls := hown
  obtain ⟨⟨hR9, hG9, hU9, hD9⟩, -⟩ := id hv
  obtain ⟨mc1, el1, h1, -⟩ := CW.LR hw
  obtain ⟨mc2, el2, h2, -⟩ := CW.LG hw
  obtain ⟨mc3, el3, h3, -⟩ := CW.LU hw
  refine lv_aload_n hx hb dX4_door_0 rfl (lv_at hl 0 rfl) ?_
  refine lv_iload_n hx hb dX4_door_1 rfl (lv_at hl 1 rfl) ?_
  refine m_cV 1 [.int (nI a)] [] hx hb hml hown hts hK (c_isRoomY l E A g M σ hv hw a (by omega)) gX4_door_X4_isRoom rfl rfl rfl (by decide +kernel) rfl ⟨Nat.le_of_ble_eq_true rfl, Nat.le_of_ble_eq_true rfl⟩ hM (CW.x hw) rfl rfl hM hl.1 (Nat.le_of_ble_eq_true rfl) ⟨Nat.le_of_ble_eq_true rfl, Nat.le_of_ble_eq_true rfl⟩ rfl dX4_door_2 ?_
  refine lv_if_eq (tgt := 16) hx hb dX4_door_5 (by decide) (fun c9 => absurd c9 (by decide)) (fun c9 => ?_)
  refine lv_aload_n hx hb dX4_door_8 rfl (lv_at hl 0 rfl) ?_
  refine lv_iload_n hx hb dX4_door_9 rfl (lv_at hl 2 rfl) ?_
  refine m_cV 1 [.int (nI b)] [] hx hb hml hown hts hK (c_isRoomY l E A g M σ hv hw b (by omega)) gX4_door_X4_isRoom rfl rfl rfl (by decide +kernel) rfl ⟨Nat.le_of_ble_eq_true rfl, Nat.le_of_ble_eq_true rfl⟩ hM (CW.x hw) rfl rfl hM hl.1 (Nat.le_of_ble_eq_true rfl) ⟨Nat.le_of_ble_eq_true rfl, Nat.le_of_ble_eq_true rfl⟩ rfl dX4_door_10 ?_
  refine lv_if_ne (tgt := 26) hx hb dX4_door_13 (by decide) (fun c9 => ?_) (fun c9 => absurd c9 (by decide))
  refine lv_iload_n hx hb dX4_door_26 rfl (lv_at hl 1 rfl) ?_
  refine lv_iload_n hx hb dX4_door_27 rfl (lv_at hl 2 rfl) ?_
  refine lv_icmp_ne (tgt := 41) hx hb dX4_door_28 (by decide) (fun c28 => ?_) (fun c9 => absurd ((nI_eq (by omega) (by omega)).mp c9) hab)
  refine lv_aload_n hx hb dX4_door_41 rfl (lv_at hl 0 rfl) ?_
  refine m_get hx hb hts in_X4_door_X4 hown hK hM (CW.x hw) rfl 0 (by decide) (by decide +kernel) rfl dX4_door_42 ?_
  refine lv_iload_n hx hb dX4_door_45 rfl (lv_at hl 1 rfl) ?_
  refine m_cV 1 [.int (nI a)] [] hx hb hml hown hts hK (c_get l E A g M (CW.LR hw) (by omega) a (by omega)) gX4_door_Jx4a65c_get_915e3 rfl rfl rfl (by decide +kernel) rfl ⟨Nat.le_of_ble_eq_true rfl, Nat.le_of_ble_eq_true rfl⟩ hM h1 rfl rfl hM hl.1 (Nat.le_of_ble_eq_true rfl) ⟨Nat.le_of_ble_eq_true rfl, Nat.le_of_ble_eq_true rfl⟩ rfl dX4_door_46 ?_
  refine m_cast (ci := 3) hx hb hts hown (by decide +kernel) hK hM (CW.room hw (i := a) (by omega)) rfl dX4_door_49 ?_
  refine lv_astore_n (lv' := [(3, .ref (g (100 + a))), (0, .ref (g 0)), (1, .int (nI a)), (2, .int (nI b))]) hx hb dX4_door_52 rfl hl (by decide) rfl (fun ls hl => ?_)
  refine lv_aload_n hx hb dX4_door_53 rfl (lv_at hl 1 rfl) ?_
  refine m_get hx hb hts in_X4_door_X4 hown hK hM (CW.x hw) rfl 0 (by decide) (by decide +kernel) rfl dX4_door_54 ?_
  refine lv_iload_n hx hb dX4_door_57 rfl (lv_at hl 3 rfl) ?_
  refine m_cV 1 [.int (nI b)] [] hx hb hml hown hts hK (c_get l E A g M (CW.LR hw) (by omega) b (by omega)) gX4_door_Jx4a65c_get_915e3 rfl rfl rfl (by decide +kernel) rfl ⟨Nat.le_of_ble_eq_true rfl, Nat.le_of_ble_eq_true rfl⟩ hM h1 rfl rfl hM hl.1 (Nat.le_of_ble_eq_true rfl) ⟨Nat.le_of_ble_eq_true rfl, Nat.le_of_ble_eq_true rfl⟩ rfl dX4_door_58 ?_
  refine m_cast (ci := 3) hx hb hts hown (by decide +kernel) hK hM (CW.room hw (i := b) (by omega)) rfl dX4_door_61 ?_
  refine lv_astore (lv' := [(4, .ref (g (100 + b))), (3, .ref (g (100 + a))), (0, .ref (g 0)), (1, .int (nI a)), (2, .int (nI b))]) hx hb dX4_door_64 hl (by decide) rfl (fun ls hl => ?_)
  refine lv_aload_n hx hb dX4_door_66 rfl (lv_at hl 1 rfl) ?_
  refine lv_iload_n hx hb dX4_door_67 rfl (lv_at hl 4 rfl) ?_
  refine m_cV 1 [.int (nI b)] [] hx hb hml hown hts hK (c_leadsTo l E A g M (100 + a) (sRm σ a 0) (sRm σ a 2) (sRm σ a 1) (sRm σ a 3) (sRm σ a 4) (sJn σ a) (CW.room hw (by omega)) b) gX4_door_X2_leadsTo rfl rfl rfl (by decide +kernel) rfl ⟨Nat.le_of_ble_eq_true rfl, Nat.le_of_ble_eq_true rfl⟩ hM (CW.room hw (i := a) (by omega)) rfl rfl hM hl.1 (Nat.le_of_ble_eq_true rfl) ⟨Nat.le_of_ble_eq_true rfl, Nat.le_of_ble_eq_true rfl⟩ rfl dX4_door_68 ?_
  refine lv_if_eq (tgt := 79) hx hb dX4_door_71 (by decide) (fun c71 => ?_) (fun c9 => absurd (bI_t c9) (by rw [hbit]; decide))
  have c71 := bI_f c71
  refine lv_aload_n hx hb dX4_door_79 rfl (lv_at hl 2 rfl) ?_
  refine m_get hx hb hts in_X4_door_X4 hown hK hM (CW.x hw) rfl 4 (by decide) (by decide +kernel) rfl dX4_door_80 ?_
  refine lv_bipush (v := 20) hx hb dX4_door_83 (by decide) ?_
  refine lv_icmp_lt (tgt := 98) hx hb dX4_door_85 (by decide) (fun c9 => absurd c9 (by rw [hfull]; decide)) (fun c85 => ?_)
  obtain ⟨sa9, hsa9⟩ := hZ.txt (q := (80, "there is no place for another door")) (by decide +kernel)
  exact vx_throwS (A := A) hx hb hl9 (cls := "java/lang/IllegalStateException") (names := ["java/lang/RuntimeException", "java/lang/Exception"]) hown (by decide +kernel) (by decide +kernel) (hts (.classLink RX4 44 "java/lang/IllegalStateException") (by decide +kernel)) (hts (.initialized "java/lang/IllegalStateException") (by decide +kernel)) hsa9 (x_at48 hZ (fun w h => hts w (xs_X4_door_48 w h))) x_good48 hZ.2.2.2.1 hZ.2.2.2.2 va_S.rf (hl.1.trans hml.symm) dX4_door_88 dX4_door_91 dX4_door_92 dX4_door_94 dX4_door_97 (fun x h => (hnt x h).elim) (Nat.le_of_ble_eq_true rfl) (Nat.le_of_ble_eq_true rfl) (Nat.le_of_ble_eq_true rfl) (Nat.le_of_ble_eq_true rfl) hlocks (fun t _ h1 h2 => ⟨rfl, h1, fun q h3 _ => h2 q h3⟩) (fun z h => nomatch h) (Nat.le_of_ble_eq_true rfl) (Nat.le_of_ble_eq_true rfl)
theorem xs_X4_haunt_66 : ∀ w ∈ (vx_atS RX4 66 "java/lang/IndexOutOfBoundsException" ["java/lang/RuntimeException", "java/lang/Exception"]).filter goodWord, w ∈ wsX4_haunt := by decide +kernel
set_option maxHeartbeats 4000000 in
set_option maxRecDepth 100000 in
theorem x_haunt1 (l : Launch) (hl9 : l.stackTraces = false) (E : gE) (A : Nat → Prop) (g : Nat → Nat) (M : gM) (σ : Sg) (hv : VS σ) (hw : CW E g M σ) (x xf xw xb : Int32) (hbad : ¬ (0 ≤ x ∧ x < nI (kR σ))) : vx_Met l yX4_haunt wsX4_haunt ({ frames := 6, cells := 1, slots := 6, locals := 140 } : Room) (Pz E A [.ref (g 0), .int x, .int xf, .int xw, .int xb] (mP E A g M)) (fun _ _ _ _ => False) (XE "java/lang/IndexOutOfBoundsException") 1 6 (fun _ => False) := by
  refine x_entry (by decide) rfl (Nat.le_of_ble_eq_true rfl) ?_
  intro p e s m args below meth c hx hb hr hml hts hown hlocks hin hM hK hZ hnt ls hl
  have hl : lv_has ls 6 [(0, .ref (g 0)), (1, .int x), (2, .int xf), (3, .int xw), (4, .int xb)] := hl
  have hown : s.vm.findClass RX4 = some m.cls := hown
  obtain ⟨⟨hR9, hG9, hU9, hD9⟩, -⟩ := id hv
  obtain ⟨mc1, el1, h1, -⟩ := CW.LR hw
  obtain ⟨mc2, el2, h2, -⟩ := CW.LG hw
  obtain ⟨mc3, el3, h3, -⟩ := CW.LU hw
  refine lv_aload_n hx hb dX4_haunt_0 rfl (lv_at hl 0 rfl) ?_
  refine lv_iload_n hx hb dX4_haunt_1 rfl (lv_at hl 1 rfl) ?_
  refine m_cV 1 [.int x] [] hx hb hml hown hts hK (c_isRoom l E A g M σ hv hw x) gX4_haunt_X4_isRoom rfl rfl rfl (by decide +kernel) rfl ⟨Nat.le_of_ble_eq_true rfl, Nat.le_of_ble_eq_true rfl⟩ hM (CW.x hw) rfl rfl hM hl.1 (Nat.le_of_ble_eq_true rfl) ⟨Nat.le_of_ble_eq_true rfl, Nat.le_of_ble_eq_true rfl⟩ rfl dX4_haunt_2 ?_
  refine lv_if_ne (tgt := 18) hx hb dX4_haunt_5 (by decide) (fun c9 => absurd (of_decide_eq_true (bI_t c9)) hbad) (fun c5 => ?_)
  have c5 := of_decide_eq_false (bI_f c5)
  obtain ⟨sa9, hsa9⟩ := hZ.txt (q := (64, "no such room")) (by decide +kernel)
  exact vx_throwS (A := A) hx hb hl9 (cls := "java/lang/IndexOutOfBoundsException") (names := ["java/lang/RuntimeException", "java/lang/Exception"]) hown (by decide +kernel) (by decide +kernel) (hts (.classLink RX4 62 "java/lang/IndexOutOfBoundsException") (by decide +kernel)) (hts (.initialized "java/lang/IndexOutOfBoundsException") (by decide +kernel)) hsa9 (x_at66 hZ (fun w h => hts w (xs_X4_haunt_66 w h))) x_good66 hZ.2.2.2.1 hZ.2.2.2.2 va_S.rf (hl.1.trans hml.symm) dX4_haunt_8 dX4_haunt_11 dX4_haunt_12 dX4_haunt_14 dX4_haunt_17 (fun x h => (hnt x h).elim) (Nat.le_of_ble_eq_true rfl) (Nat.le_of_ble_eq_true rfl) (Nat.le_of_ble_eq_true rfl) (Nat.le_of_ble_eq_true rfl) hlocks (fun t _ h1 h2 => ⟨rfl, h1, fun q h3 _ => h2 q h3⟩) (fun z h => nomatch h) (Nat.le_of_ble_eq_true rfl) (Nat.le_of_ble_eq_true rfl)
theorem xs_X4_haunt_37 : ∀ w ∈ (vx_atS RX4 37 "java/lang/IllegalArgumentException" ["java/lang/RuntimeException", "java/lang/Exception"]).filter goodWord, w ∈ wsX4_haunt := by decide +kernel
set_option maxHeartbeats 4000000 in
set_option maxRecDepth 100000 in
theorem x_haunt2 (l : Launch) (hl9 : l.stackTraces = false) (E : gE) (A : Nat → Prop) (g : Nat → Nat) (M : gM) (σ : Sg) (hv : VS σ) (hw : CW E g M σ) (k : Nat) (hk : k < kR σ) (xf xw xb : Int32) (hbad : ¬ ((1 ≤ xf ∧ xf ≤ 9) ∧ (0 ≤ xw ∧ xw ≤ 11) ∧ xw < xb ∧ xb ≤ 12)) : vx_Met l yX4_haunt wsX4_haunt ({ frames := 6, cells := 1, slots := 6, locals := 140 } : Room) (Pz E A [.ref (g 0), .int (nI k), .int xf, .int xw, .int xb] (mP E A g M)) (fun _ _ _ _ => False) (XE "java/lang/IllegalArgumentException") 1 6 (fun _ => False) := by
  refine x_entry (by decide) rfl (Nat.le_of_ble_eq_true rfl) ?_
  intro p e s m args below meth c hx hb hr hml hts hown hlocks hin hM hK hZ hnt ls hl
  have hl : lv_has ls 6 [(0, .ref (g 0)), (1, .int (nI k)), (2, .int xf), (3, .int xw), (4, .int xb)] := hl
  have hown : s.vm.findClass RX4 = some m.cls := hown
  obtain ⟨⟨hR9, hG9, hU9, hD9⟩, -⟩ := id hv
  obtain ⟨mc1, el1, h1, -⟩ := CW.LR hw
  obtain ⟨mc2, el2, h2, -⟩ := CW.LG hw
  obtain ⟨mc3, el3, h3, -⟩ := CW.LU hw
  refine lv_aload_n hx hb dX4_haunt_0 rfl (lv_at hl 0 rfl) ?_
  refine lv_iload_n hx hb dX4_haunt_1 rfl (lv_at hl 1 rfl) ?_
  refine m_cV 1 [.int (nI k)] [] hx hb hml hown hts hK (c_isRoomY l E A g M σ hv hw k (by omega)) gX4_haunt_X4_isRoom rfl rfl rfl (by decide +kernel) rfl ⟨Nat.le_of_ble_eq_true rfl, Nat.le_of_ble_eq_true rfl⟩ hM (CW.x hw) rfl rfl hM hl.1 (Nat.le_of_ble_eq_true rfl) ⟨Nat.le_of_ble_eq_true rfl, Nat.le_of_ble_eq_true rfl⟩ rfl dX4_haunt_2 ?_
  refine lv_if_ne (tgt := 18) hx hb dX4_haunt_5 (by decide) (fun c9 => ?_) (fun c9 => absurd c9 (by decide))
  refine lv_iload_n hx hb dX4_haunt_18 rfl (lv_at hl 2 rfl) ?_
  refine lv_iconst (v := 1) hx hb dX4_haunt_19 (by decide) ?_
  refine lv_bipush (v := 9) hx hb dX4_haunt_20 (by decide) ?_
  refine m_cS 3 [.int xf, .int 1, .int 9] [] hx hb hml hown hts hK (c_within l E A g M xf 1 9) gX4_haunt_X4_within rfl rfl rfl (by decide +kernel) rfl ⟨Nat.le_of_ble_eq_true rfl, Nat.le_of_ble_eq_true rfl⟩ trivial hl.1 (Nat.le_of_ble_eq_true rfl) ⟨Nat.le_of_ble_eq_true rfl, Nat.le_of_ble_eq_true rfl⟩ rfl dX4_haunt_22 ?_
  refine lv_if_eq (tgt := 51) hx hb dX4_haunt_25 (by decide) (fun c25 => ?_) (fun c25 => ?_)
  · have c25 := of_decide_eq_false (bI_f c25)
    obtain ⟨sa9, hsa9⟩ := hZ.txt (q := (89, "no such fright or hours")) (by decide +kernel)
    exact vx_throwS (A := A) hx hb hl9 (cls := "java/lang/IllegalArgumentException") (names := ["java/lang/RuntimeException", "java/lang/Exception"]) hown (by decide +kernel) (by decide +kernel) (hts (.classLink RX4 33 "java/lang/IllegalArgumentException") (by decide +kernel)) (hts (.initialized "java/lang/IllegalArgumentException") (by decide +kernel)) hsa9 (x_at37 hZ (fun w h => hts w (xs_X4_haunt_37 w h))) x_good37 hZ.2.2.2.1 hZ.2.2.2.2 va_S.rf (hl.1.trans hml.symm) dX4_haunt_51 dX4_haunt_54 dX4_haunt_55 dX4_haunt_57 dX4_haunt_60 (fun x h => (hnt x h).elim) (Nat.le_of_ble_eq_true rfl) (Nat.le_of_ble_eq_true rfl) (Nat.le_of_ble_eq_true rfl) (Nat.le_of_ble_eq_true rfl) hlocks (fun t _ h1 h2 => ⟨rfl, h1, fun q h3 _ => h2 q h3⟩) (fun z h => nomatch h) (Nat.le_of_ble_eq_true rfl) (Nat.le_of_ble_eq_true rfl)
  · have c25 := of_decide_eq_true (bI_t c25)
    refine lv_iload_n hx hb dX4_haunt_28 rfl (lv_at hl 3 rfl) ?_
    refine lv_iconst (v := 0) hx hb dX4_haunt_29 (by decide) ?_
    refine lv_bipush (v := 11) hx hb dX4_haunt_30 (by decide) ?_
    refine m_cS 3 [.int xw, .int 0, .int 11] [] hx hb hml hown hts hK (c_within l E A g M xw 0 11) gX4_haunt_X4_within rfl rfl rfl (by decide +kernel) rfl ⟨Nat.le_of_ble_eq_true rfl, Nat.le_of_ble_eq_true rfl⟩ trivial hl.1 (Nat.le_of_ble_eq_true rfl) ⟨Nat.le_of_ble_eq_true rfl, Nat.le_of_ble_eq_true rfl⟩ rfl dX4_haunt_32 ?_
    refine lv_if_eq (tgt := 51) hx hb dX4_haunt_35 (by decide) (fun c35 => ?_) (fun c35 => ?_)
    · have c35 := of_decide_eq_false (bI_f c35)
      obtain ⟨sa9, hsa9⟩ := hZ.txt (q := (89, "no such fright or hours")) (by decide +kernel)
      exact vx_throwS (A := A) hx hb hl9 (cls := "java/lang/IllegalArgumentException") (names := ["java/lang/RuntimeException", "java/lang/Exception"]) hown (by decide +kernel) (by decide +kernel) (hts (.classLink RX4 33 "java/lang/IllegalArgumentException") (by decide +kernel)) (hts (.initialized "java/lang/IllegalArgumentException") (by decide +kernel)) hsa9 (x_at37 hZ (fun w h => hts w (xs_X4_haunt_37 w h))) x_good37 hZ.2.2.2.1 hZ.2.2.2.2 va_S.rf (hl.1.trans hml.symm) dX4_haunt_51 dX4_haunt_54 dX4_haunt_55 dX4_haunt_57 dX4_haunt_60 (fun x h => (hnt x h).elim) (Nat.le_of_ble_eq_true rfl) (Nat.le_of_ble_eq_true rfl) (Nat.le_of_ble_eq_true rfl) (Nat.le_of_ble_eq_true rfl) hlocks (fun t _ h1 h2 => ⟨rfl, h1, fun q h3 _ => h2 q h3⟩) (fun z h => nomatch h) (Nat.le_of_ble_eq_true rfl) (Nat.le_of_ble_eq_true rfl)
    · have c35 := of_decide_eq_true (bI_t c35)
      refine lv_iload hx hb dX4_haunt_38 (lv_at hl 4 rfl) ?_
      refine lv_iload_n hx hb dX4_haunt_40 rfl (lv_at hl 3 rfl) ?_
      refine lv_iconst (v := 1) hx hb dX4_haunt_41 (by decide) ?_
      refine lv_iadd hx hb dX4_haunt_42 ?_
      refine lv_bipush (v := 12) hx hb dX4_haunt_43 (by decide) ?_
      refine m_cS 3 [.int xb, .int (xw + 1), .int 12] [] hx hb hml hown hts hK (c_within l E A g M xb (xw + 1) 12) gX4_haunt_X4_within rfl rfl rfl (by decide +kernel) rfl ⟨Nat.le_of_ble_eq_true rfl, Nat.le_of_ble_eq_true rfl⟩ trivial hl.1 (Nat.le_of_ble_eq_true rfl) ⟨Nat.le_of_ble_eq_true rfl, Nat.le_of_ble_eq_true rfl⟩ rfl dX4_haunt_45 ?_
      refine lv_if_ne (tgt := 61) hx hb dX4_haunt_48 (by decide) (fun c9 => absurd ⟨c25, c35, (wk_1 c35).mp (of_decide_eq_true (bI_t c9)).1, (of_decide_eq_true (bI_t c9)).2⟩ hbad) (fun c48 => ?_)
      have c48 := of_decide_eq_false (bI_f c48)
      obtain ⟨sa9, hsa9⟩ := hZ.txt (q := (89, "no such fright or hours")) (by decide +kernel)
      exact vx_throwS (A := A) hx hb hl9 (cls := "java/lang/IllegalArgumentException") (names := ["java/lang/RuntimeException", "java/lang/Exception"]) hown (by decide +kernel) (by decide +kernel) (hts (.classLink RX4 33 "java/lang/IllegalArgumentException") (by decide +kernel)) (hts (.initialized "java/lang/IllegalArgumentException") (by decide +kernel)) hsa9 (x_at37 hZ (fun w h => hts w (xs_X4_haunt_37 w h))) x_good37 hZ.2.2.2.1 hZ.2.2.2.2 va_S.rf (hl.1.trans hml.symm) dX4_haunt_51 dX4_haunt_54 dX4_haunt_55 dX4_haunt_57 dX4_haunt_60 (fun x h => (hnt x h).elim) (Nat.le_of_ble_eq_true rfl) (Nat.le_of_ble_eq_true rfl) (Nat.le_of_ble_eq_true rfl) (Nat.le_of_ble_eq_true rfl) hlocks (fun t _ h1 h2 => ⟨rfl, h1, fun q h3 _ => h2 q h3⟩) (fun z h => nomatch h) (Nat.le_of_ble_eq_true rfl) (Nat.le_of_ble_eq_true rfl)
theorem xs_X4_haunt_48 : ∀ w ∈ (vx_atS RX4 48 "java/lang/IllegalStateException" ["java/lang/RuntimeException", "java/lang/Exception"]).filter goodWord, w ∈ wsX4_haunt := by decide +kernel
set_option maxHeartbeats 4000000 in
set_option maxRecDepth 100000 in
theorem x_haunt3 (l : Launch) (hl9 : l.stackTraces = false) (E : gE) (A : Nat → Prop) (g : Nat → Nat) (M : gM) (σ : Sg) (hv : VS σ) (hw : CW E g M σ) (k : Nat) (hk : k < kR σ) (xf xw xb : Int32) (hok : ((1 ≤ xf ∧ xf ≤ 9) ∧ (0 ≤ xw ∧ xw ≤ 11) ∧ xw < xb ∧ xb ≤ 12)) (hfull : kG σ = 5) : vx_Met l yX4_haunt wsX4_haunt ({ frames := 6, cells := 1, slots := 6, locals := 140 } : Room) (Pz E A [.ref (g 0), .int (nI k), .int xf, .int xw, .int xb] (mP E A g M)) (fun _ _ _ _ => False) (XE "java/lang/IllegalStateException") 1 6 (fun _ => False) := by
  refine x_entry (by decide) rfl (Nat.le_of_ble_eq_true rfl) ?_
  intro p e s m args below meth c hx hb hr hml hts hown hlocks hin hM hK hZ hnt ls hl
  have hl : lv_has ls 6 [(0, .ref (g 0)), (1, .int (nI k)), (2, .int xf), (3, .int xw), (4, .int xb)] := hl
  have hown : s.vm.findClass RX4 = some m.cls := hown
  obtain ⟨⟨hR9, hG9, hU9, hD9⟩, -⟩ := id hv
  obtain ⟨mc1, el1, h1, -⟩ := CW.LR hw
  obtain ⟨mc2, el2, h2, -⟩ := CW.LG hw
  obtain ⟨mc3, el3, h3, -⟩ := CW.LU hw
  refine lv_aload_n hx hb dX4_haunt_0 rfl (lv_at hl 0 rfl) ?_
  refine lv_iload_n hx hb dX4_haunt_1 rfl (lv_at hl 1 rfl) ?_
  refine m_cV 1 [.int (nI k)] [] hx hb hml hown hts hK (c_isRoomY l E A g M σ hv hw k (by omega)) gX4_haunt_X4_isRoom rfl rfl rfl (by decide +kernel) rfl ⟨Nat.le_of_ble_eq_true rfl, Nat.le_of_ble_eq_true rfl⟩ hM (CW.x hw) rfl rfl hM hl.1 (Nat.le_of_ble_eq_true rfl) ⟨Nat.le_of_ble_eq_true rfl, Nat.le_of_ble_eq_true rfl⟩ rfl dX4_haunt_2 ?_
  refine lv_if_ne (tgt := 18) hx hb dX4_haunt_5 (by decide) (fun c9 => ?_) (fun c9 => absurd c9 (by decide))
  refine lv_iload_n hx hb dX4_haunt_18 rfl (lv_at hl 2 rfl) ?_
  refine lv_iconst (v := 1) hx hb dX4_haunt_19 (by decide) ?_
  refine lv_bipush (v := 9) hx hb dX4_haunt_20 (by decide) ?_
  refine m_cS 3 [.int xf, .int 1, .int 9] [] hx hb hml hown hts hK (c_withinY l E A g M xf 1 9 (hok.1)) gX4_haunt_X4_within rfl rfl rfl (by decide +kernel) rfl ⟨Nat.le_of_ble_eq_true rfl, Nat.le_of_ble_eq_true rfl⟩ trivial hl.1 (Nat.le_of_ble_eq_true rfl) ⟨Nat.le_of_ble_eq_true rfl, Nat.le_of_ble_eq_true rfl⟩ rfl dX4_haunt_22 ?_
  refine lv_if_eq (tgt := 51) hx hb dX4_haunt_25 (by decide) (fun c9 => absurd c9 (by decide)) (fun c9 => ?_)
  refine lv_iload_n hx hb dX4_haunt_28 rfl (lv_at hl 3 rfl) ?_
  refine lv_iconst (v := 0) hx hb dX4_haunt_29 (by decide) ?_
  refine lv_bipush (v := 11) hx hb dX4_haunt_30 (by decide) ?_
  refine m_cS 3 [.int xw, .int 0, .int 11] [] hx hb hml hown hts hK (c_withinY l E A g M xw 0 11 (hok.2.1)) gX4_haunt_X4_within rfl rfl rfl (by decide +kernel) rfl ⟨Nat.le_of_ble_eq_true rfl, Nat.le_of_ble_eq_true rfl⟩ trivial hl.1 (Nat.le_of_ble_eq_true rfl) ⟨Nat.le_of_ble_eq_true rfl, Nat.le_of_ble_eq_true rfl⟩ rfl dX4_haunt_32 ?_
  refine lv_if_eq (tgt := 51) hx hb dX4_haunt_35 (by decide) (fun c9 => absurd c9 (by decide)) (fun c9 => ?_)
  refine lv_iload hx hb dX4_haunt_38 (lv_at hl 4 rfl) ?_
  refine lv_iload_n hx hb dX4_haunt_40 rfl (lv_at hl 3 rfl) ?_
  refine lv_iconst (v := 1) hx hb dX4_haunt_41 (by decide) ?_
  refine lv_iadd hx hb dX4_haunt_42 ?_
  refine lv_bipush (v := 12) hx hb dX4_haunt_43 (by decide) ?_
  refine m_cS 3 [.int xb, .int (xw + 1), .int 12] [] hx hb hml hown hts hK (c_withinY l E A g M xb (xw + 1) 12 (⟨(wk_1 hok.2.1).mpr hok.2.2.1, hok.2.2.2⟩)) gX4_haunt_X4_within rfl rfl rfl (by decide +kernel) rfl ⟨Nat.le_of_ble_eq_true rfl, Nat.le_of_ble_eq_true rfl⟩ trivial hl.1 (Nat.le_of_ble_eq_true rfl) ⟨Nat.le_of_ble_eq_true rfl, Nat.le_of_ble_eq_true rfl⟩ rfl dX4_haunt_45 ?_
  refine lv_if_ne (tgt := 61) hx hb dX4_haunt_48 (by decide) (fun c9 => ?_) (fun c9 => absurd c9 (by decide))
  refine lv_aload_n hx hb dX4_haunt_61 rfl (lv_at hl 0 rfl) ?_
  refine m_get hx hb hts in_X4_haunt_X4 hown hK hM (CW.x hw) rfl 1 (by decide) (by decide +kernel) rfl dX4_haunt_62 ?_
  refine m_cV 0 [] [] hx hb hml hown hts hK (c_size l E A g M (CW.LG hw)) gX4_haunt_Jx4a65c_size_8abf5 rfl rfl rfl (by decide +kernel) rfl ⟨Nat.le_of_ble_eq_true rfl, Nat.le_of_ble_eq_true rfl⟩ hM h2 rfl rfl hM hl.1 (Nat.le_of_ble_eq_true rfl) ⟨Nat.le_of_ble_eq_true rfl, Nat.le_of_ble_eq_true rfl⟩ rfl dX4_haunt_65 ?_
  refine lv_iconst (v := 5) hx hb dX4_haunt_68 (by decide) ?_
  refine lv_icmp_lt (tgt := 82) hx hb dX4_haunt_69 (by decide) (fun c9 => absurd c9 (by rw [hfull]; decide)) (fun c69 => ?_)
  obtain ⟨sa9, hsa9⟩ := hZ.txt (q := (91, "there is no place for another ghost")) (by decide +kernel)
  exact vx_throwS (A := A) hx hb hl9 (cls := "java/lang/IllegalStateException") (names := ["java/lang/RuntimeException", "java/lang/Exception"]) hown (by decide +kernel) (by decide +kernel) (hts (.classLink RX4 44 "java/lang/IllegalStateException") (by decide +kernel)) (hts (.initialized "java/lang/IllegalStateException") (by decide +kernel)) hsa9 (x_at48 hZ (fun w h => hts w (xs_X4_haunt_48 w h))) x_good48 hZ.2.2.2.1 hZ.2.2.2.2 va_S.rf (hl.1.trans hml.symm) dX4_haunt_72 dX4_haunt_75 dX4_haunt_76 dX4_haunt_78 dX4_haunt_81 (fun x h => (hnt x h).elim) (Nat.le_of_ble_eq_true rfl) (Nat.le_of_ble_eq_true rfl) (Nat.le_of_ble_eq_true rfl) (Nat.le_of_ble_eq_true rfl) hlocks (fun t _ h1 h2 => ⟨rfl, h1, fun q h3 _ => h2 q h3⟩) (fun z h => nomatch h) (Nat.le_of_ble_eq_true rfl) (Nat.le_of_ble_eq_true rfl)
theorem xs_X4_at_66 : ∀ w ∈ (vx_atS RX4 66 "java/lang/IndexOutOfBoundsException" ["java/lang/RuntimeException", "java/lang/Exception"]).filter goodWord, w ∈ wsX4_at := by decide +kernel
set_option maxHeartbeats 4000000 in
set_option maxRecDepth 100000 in
theorem x_at1 (l : Launch) (hl9 : l.stackTraces = false) (E : gE) (A : Nat → Prop) (g : Nat → Nat) (M : gM) (σ : Sg) (hv : VS σ) (hw : CW E g M σ) (x y : Int32) (hbad : ¬ (0 ≤ x ∧ x < nI (kG σ))) : vx_Met l yX4_at wsX4_at ({ frames := 6, cells := 1, slots := 6, locals := 140 } : Room) (Pz E A [.ref (g 0), .int x, .int y] (mP E A g M)) (fun _ _ _ _ => False) (XE "java/lang/IndexOutOfBoundsException") 1 6 (fun _ => False) := by
  refine x_entry (by decide) rfl (Nat.le_of_ble_eq_true rfl) ?_
  intro p e s m args below meth c hx hb hr hml hts hown hlocks hin hM hK hZ hnt ls hl
  have hl : lv_has ls 3 [(0, .ref (g 0)), (1, .int x), (2, .int y)] := hl
  have hown : s.vm.findClass RX4 = some m.cls := hown
  obtain ⟨⟨hR9, hG9, hU9, hD9⟩, -⟩ := id hv
  obtain ⟨mc1, el1, h1, -⟩ := CW.LR hw
  obtain ⟨mc2, el2, h2, -⟩ := CW.LG hw
  obtain ⟨mc3, el3, h3, -⟩ := CW.LU hw
  refine lv_aload_n hx hb dX4_at_0 rfl (lv_at hl 0 rfl) ?_
  refine lv_iload_n hx hb dX4_at_1 rfl (lv_at hl 1 rfl) ?_
  refine m_cV 1 [.int x] [] hx hb hml hown hts hK (c_isGhost l E A g M σ hv hw x) gX4_at_X4_isGhost rfl rfl rfl (by decide +kernel) rfl ⟨Nat.le_of_ble_eq_true rfl, Nat.le_of_ble_eq_true rfl⟩ hM (CW.x hw) rfl rfl hM hl.1 (Nat.le_of_ble_eq_true rfl) ⟨Nat.le_of_ble_eq_true rfl, Nat.le_of_ble_eq_true rfl⟩ rfl dX4_at_2 ?_
  refine lv_if_ne (tgt := 18) hx hb dX4_at_5 (by decide) (fun c9 => absurd (of_decide_eq_true (bI_t c9)) hbad) (fun c5 => ?_)
  have c5 := of_decide_eq_false (bI_f c5)
  obtain ⟨sa9, hsa9⟩ := hZ.txt (q := (105, "no such ghost")) (by decide +kernel)
  exact vx_throwS (A := A) hx hb hl9 (cls := "java/lang/IndexOutOfBoundsException") (names := ["java/lang/RuntimeException", "java/lang/Exception"]) hown (by decide +kernel) (by decide +kernel) (hts (.classLink RX4 62 "java/lang/IndexOutOfBoundsException") (by decide +kernel)) (hts (.initialized "java/lang/IndexOutOfBoundsException") (by decide +kernel)) hsa9 (x_at66 hZ (fun w h => hts w (xs_X4_at_66 w h))) x_good66 hZ.2.2.2.1 hZ.2.2.2.2 va_S.rf (hl.1.trans hml.symm) dX4_at_8 dX4_at_11 dX4_at_12 dX4_at_14 dX4_at_17 (fun x h => (hnt x h).elim) (Nat.le_of_ble_eq_true rfl) (Nat.le_of_ble_eq_true rfl) (Nat.le_of_ble_eq_true rfl) (Nat.le_of_ble_eq_true rfl) hlocks (fun t _ h1 h2 => ⟨rfl, h1, fun q h3 _ => h2 q h3⟩) (fun z h => nomatch h) (Nat.le_of_ble_eq_true rfl) (Nat.le_of_ble_eq_true rfl)
set_option maxHeartbeats 4000000 in
set_option maxRecDepth 100000 in
theorem x_at2 (l : Launch) (hl9 : l.stackTraces = false) (E : gE) (A : Nat → Prop) (g : Nat → Nat) (M : gM) (σ : Sg) (hv : VS σ) (hw : CW E g M σ) (k : Nat) (hk : k < kG σ) (y : Int32) (hbad : ¬ (0 ≤ y ∧ y ≤ 11)) : vx_Met l yX4_at wsX4_at ({ frames := 6, cells := 1, slots := 6, locals := 140 } : Room) (Pz E A [.ref (g 0), .int (nI k), .int y] (mP E A g M)) (fun _ _ _ _ => False) (XE "java/lang/IndexOutOfBoundsException") 1 6 (fun _ => False) := by
  refine x_entry (by decide) rfl (Nat.le_of_ble_eq_true rfl) ?_
  intro p e s m args below meth c hx hb hr hml hts hown hlocks hin hM hK hZ hnt ls hl
  have hl : lv_has ls 3 [(0, .ref (g 0)), (1, .int (nI k)), (2, .int y)] := hl
  have hown : s.vm.findClass RX4 = some m.cls := hown
  obtain ⟨⟨hR9, hG9, hU9, hD9⟩, -⟩ := id hv
  obtain ⟨mc1, el1, h1, -⟩ := CW.LR hw
  obtain ⟨mc2, el2, h2, -⟩ := CW.LG hw
  obtain ⟨mc3, el3, h3, -⟩ := CW.LU hw
  refine lv_aload_n hx hb dX4_at_0 rfl (lv_at hl 0 rfl) ?_
  refine lv_iload_n hx hb dX4_at_1 rfl (lv_at hl 1 rfl) ?_
  refine m_cV 1 [.int (nI k)] [] hx hb hml hown hts hK (c_isGhostY l E A g M σ hv hw k (by omega)) gX4_at_X4_isGhost rfl rfl rfl (by decide +kernel) rfl ⟨Nat.le_of_ble_eq_true rfl, Nat.le_of_ble_eq_true rfl⟩ hM (CW.x hw) rfl rfl hM hl.1 (Nat.le_of_ble_eq_true rfl) ⟨Nat.le_of_ble_eq_true rfl, Nat.le_of_ble_eq_true rfl⟩ rfl dX4_at_2 ?_
  refine lv_if_ne (tgt := 18) hx hb dX4_at_5 (by decide) (fun c9 => ?_) (fun c9 => absurd c9 (by decide))
  refine lv_iload_n hx hb dX4_at_18 rfl (lv_at hl 2 rfl) ?_
  refine lv_iconst (v := 0) hx hb dX4_at_19 (by decide) ?_
  refine lv_bipush (v := 11) hx hb dX4_at_20 (by decide) ?_
  refine m_cS 3 [.int y, .int 0, .int 11] [] hx hb hml hown hts hK (c_within l E A g M y 0 11) gX4_at_X4_within rfl rfl rfl (by decide +kernel) rfl ⟨Nat.le_of_ble_eq_true rfl, Nat.le_of_ble_eq_true rfl⟩ trivial hl.1 (Nat.le_of_ble_eq_true rfl) ⟨Nat.le_of_ble_eq_true rfl, Nat.le_of_ble_eq_true rfl⟩ rfl dX4_at_22 ?_
  refine lv_if_ne (tgt := 38) hx hb dX4_at_25 (by decide) (fun c9 => absurd (of_decide_eq_true (bI_t c9)) hbad) (fun c25 => ?_)
  have c25 := of_decide_eq_false (bI_f c25)
  obtain ⟨sa9, hsa9⟩ := hZ.txt (q := (107, "no such hour")) (by decide +kernel)
  exact vx_throwS (A := A) hx hb hl9 (cls := "java/lang/IndexOutOfBoundsException") (names := ["java/lang/RuntimeException", "java/lang/Exception"]) hown (by decide +kernel) (by decide +kernel) (hts (.classLink RX4 62 "java/lang/IndexOutOfBoundsException") (by decide +kernel)) (hts (.initialized "java/lang/IndexOutOfBoundsException") (by decide +kernel)) hsa9 (x_at66 hZ (fun w h => hts w (xs_X4_at_66 w h))) x_good66 hZ.2.2.2.1 hZ.2.2.2.2 va_S.rf (hl.1.trans hml.symm) dX4_at_28 dX4_at_31 dX4_at_32 dX4_at_34 dX4_at_37 (fun x h => (hnt x h).elim) (Nat.le_of_ble_eq_true rfl) (Nat.le_of_ble_eq_true rfl) (Nat.le_of_ble_eq_true rfl) (Nat.le_of_ble_eq_true rfl) hlocks (fun t _ h1 h2 => ⟨rfl, h1, fun q h3 _ => h2 q h3⟩) (fun z h => nomatch h) (Nat.le_of_ble_eq_true rfl) (Nat.le_of_ble_eq_true rfl)
theorem xs_X4_haunting_66 : ∀ w ∈ (vx_atS RX4 66 "java/lang/IndexOutOfBoundsException" ["java/lang/RuntimeException", "java/lang/Exception"]).filter goodWord, w ∈ wsX4_haunting := by decide +kernel
set_option maxHeartbeats 4000000 in
set_option maxRecDepth 100000 in
theorem x_haunting1 (l : Launch) (hl9 : l.stackTraces = false) (E : gE) (A : Nat → Prop) (g : Nat → Nat) (M : gM) (σ : Sg) (hv : VS σ) (hw : CW E g M σ) (x y : Int32) (hbad : ¬ (0 ≤ x ∧ x < nI (kR σ))) : vx_Met l yX4_haunting wsX4_haunting ({ frames := 6, cells := 1, slots := 6, locals := 140 } : Room) (Pz E A [.ref (g 0), .int x, .int y] (mP E A g M)) (fun _ _ _ _ => False) (XE "java/lang/IndexOutOfBoundsException") 1 6 (fun _ => False) := by
  refine x_entry (by decide) rfl (Nat.le_of_ble_eq_true rfl) ?_
  intro p e s m args below meth c hx hb hr hml hts hown hlocks hin hM hK hZ hnt ls hl
  have hl : lv_has ls 3 [(0, .ref (g 0)), (1, .int x), (2, .int y)] := hl
  have hown : s.vm.findClass RX4 = some m.cls := hown
  obtain ⟨⟨hR9, hG9, hU9, hD9⟩, -⟩ := id hv
  obtain ⟨mc1, el1, h1, -⟩ := CW.LR hw
  obtain ⟨mc2, el2, h2, -⟩ := CW.LG hw
  obtain ⟨mc3, el3, h3, -⟩ := CW.LU hw
  refine lv_aload_n hx hb dX4_haunting_0 rfl (lv_at hl 0 rfl) ?_
  refine lv_iload_n hx hb dX4_haunting_1 rfl (lv_at hl 1 rfl) ?_
  refine m_cV 1 [.int x] [] hx hb hml hown hts hK (c_isRoom l E A g M σ hv hw x) gX4_haunting_X4_isRoom rfl rfl rfl (by decide +kernel) rfl ⟨Nat.le_of_ble_eq_true rfl, Nat.le_of_ble_eq_true rfl⟩ hM (CW.x hw) rfl rfl hM hl.1 (Nat.le_of_ble_eq_true rfl) ⟨Nat.le_of_ble_eq_true rfl, Nat.le_of_ble_eq_true rfl⟩ rfl dX4_haunting_2 ?_
  refine lv_if_ne (tgt := 18) hx hb dX4_haunting_5 (by decide) (fun c9 => absurd (of_decide_eq_true (bI_t c9)) hbad) (fun c5 => ?_)
  have c5 := of_decide_eq_false (bI_f c5)
  obtain ⟨sa9, hsa9⟩ := hZ.txt (q := (64, "no such room")) (by decide +kernel)
  exact vx_throwS (A := A) hx hb hl9 (cls := "java/lang/IndexOutOfBoundsException") (names := ["java/lang/RuntimeException", "java/lang/Exception"]) hown (by decide +kernel) (by decide +kernel) (hts (.classLink RX4 62 "java/lang/IndexOutOfBoundsException") (by decide +kernel)) (hts (.initialized "java/lang/IndexOutOfBoundsException") (by decide +kernel)) hsa9 (x_at66 hZ (fun w h => hts w (xs_X4_haunting_66 w h))) x_good66 hZ.2.2.2.1 hZ.2.2.2.2 va_S.rf (hl.1.trans hml.symm) dX4_haunting_8 dX4_haunting_11 dX4_haunting_12 dX4_haunting_14 dX4_haunting_17 (fun x h => (hnt x h).elim) (Nat.le_of_ble_eq_true rfl) (Nat.le_of_ble_eq_true rfl) (Nat.le_of_ble_eq_true rfl) (Nat.le_of_ble_eq_true rfl) hlocks (fun t _ h1 h2 => ⟨rfl, h1, fun q h3 _ => h2 q h3⟩) (fun z h => nomatch h) (Nat.le_of_ble_eq_true rfl) (Nat.le_of_ble_eq_true rfl)
set_option maxHeartbeats 4000000 in
set_option maxRecDepth 100000 in
theorem x_haunting2 (l : Launch) (hl9 : l.stackTraces = false) (E : gE) (A : Nat → Prop) (g : Nat → Nat) (M : gM) (σ : Sg) (hv : VS σ) (hw : CW E g M σ) (k : Nat) (hk : k < kR σ) (y : Int32) (hbad : ¬ (-1 ≤ y ∧ y ≤ 11)) : vx_Met l yX4_haunting wsX4_haunting ({ frames := 6, cells := 1, slots := 6, locals := 140 } : Room) (Pz E A [.ref (g 0), .int (nI k), .int y] (mP E A g M)) (fun _ _ _ _ => False) (XE "java/lang/IndexOutOfBoundsException") 1 6 (fun _ => False) := by
  refine x_entry (by decide) rfl (Nat.le_of_ble_eq_true rfl) ?_
  intro p e s m args below meth c hx hb hr hml hts hown hlocks hin hM hK hZ hnt ls hl
  have hl : lv_has ls 3 [(0, .ref (g 0)), (1, .int (nI k)), (2, .int y)] := hl
  have hown : s.vm.findClass RX4 = some m.cls := hown
  obtain ⟨⟨hR9, hG9, hU9, hD9⟩, -⟩ := id hv
  obtain ⟨mc1, el1, h1, -⟩ := CW.LR hw
  obtain ⟨mc2, el2, h2, -⟩ := CW.LG hw
  obtain ⟨mc3, el3, h3, -⟩ := CW.LU hw
  refine lv_aload_n hx hb dX4_haunting_0 rfl (lv_at hl 0 rfl) ?_
  refine lv_iload_n hx hb dX4_haunting_1 rfl (lv_at hl 1 rfl) ?_
  refine m_cV 1 [.int (nI k)] [] hx hb hml hown hts hK (c_isRoomY l E A g M σ hv hw k (by omega)) gX4_haunting_X4_isRoom rfl rfl rfl (by decide +kernel) rfl ⟨Nat.le_of_ble_eq_true rfl, Nat.le_of_ble_eq_true rfl⟩ hM (CW.x hw) rfl rfl hM hl.1 (Nat.le_of_ble_eq_true rfl) ⟨Nat.le_of_ble_eq_true rfl, Nat.le_of_ble_eq_true rfl⟩ rfl dX4_haunting_2 ?_
  refine lv_if_ne (tgt := 18) hx hb dX4_haunting_5 (by decide) (fun c9 => ?_) (fun c9 => absurd c9 (by decide))
  refine lv_iload_n hx hb dX4_haunting_18 rfl (lv_at hl 2 rfl) ?_
  refine lv_iconst (v := (-1)) hx hb dX4_haunting_19 (by decide) ?_
  refine lv_bipush (v := 11) hx hb dX4_haunting_20 (by decide) ?_
  refine m_cS 3 [.int y, .int (-1), .int 11] [] hx hb hml hown hts hK (c_within l E A g M y (-1) 11) gX4_haunting_X4_within rfl rfl rfl (by decide +kernel) rfl ⟨Nat.le_of_ble_eq_true rfl, Nat.le_of_ble_eq_true rfl⟩ trivial hl.1 (Nat.le_of_ble_eq_true rfl) ⟨Nat.le_of_ble_eq_true rfl, Nat.le_of_ble_eq_true rfl⟩ rfl dX4_haunting_22 ?_
  refine lv_if_ne (tgt := 38) hx hb dX4_haunting_25 (by decide) (fun c9 => absurd (of_decide_eq_true (bI_t c9)) hbad) (fun c25 => ?_)
  have c25 := of_decide_eq_false (bI_f c25)
  obtain ⟨sa9, hsa9⟩ := hZ.txt (q := (107, "no such hour")) (by decide +kernel)
  exact vx_throwS (A := A) hx hb hl9 (cls := "java/lang/IndexOutOfBoundsException") (names := ["java/lang/RuntimeException", "java/lang/Exception"]) hown (by decide +kernel) (by decide +kernel) (hts (.classLink RX4 62 "java/lang/IndexOutOfBoundsException") (by decide +kernel)) (hts (.initialized "java/lang/IndexOutOfBoundsException") (by decide +kernel)) hsa9 (x_at66 hZ (fun w h => hts w (xs_X4_haunting_66 w h))) x_good66 hZ.2.2.2.1 hZ.2.2.2.2 va_S.rf (hl.1.trans hml.symm) dX4_haunting_28 dX4_haunting_31 dX4_haunting_32 dX4_haunting_34 dX4_haunting_37 (fun x h => (hnt x h).elim) (Nat.le_of_ble_eq_true rfl) (Nat.le_of_ble_eq_true rfl) (Nat.le_of_ble_eq_true rfl) (Nat.le_of_ble_eq_true rfl) hlocks (fun t _ h1 h2 => ⟨rfl, h1, fun q h3 _ => h2 q h3⟩) (fun z h => nomatch h) (Nat.le_of_ble_eq_true rfl) (Nat.le_of_ble_eq_true rfl)
theorem x_out {y : Int32} {n : Int} {m : Int32} (hm : m.toInt = n) (h : ¬ (0 ≤ y ∧ y ≤ m)) : y.toInt < 0 ∨ n < y.toInt := by
  simp only [Int32.le_iff_toInt_le, hm] at h
  have e : (0 : Int32).toInt = 0 := rfl
  rw [e] at h
  omega
theorem xs_X4_room_66 : ∀ w ∈ (vx_atS RX4 66 "java/lang/IndexOutOfBoundsException" ["java/lang/RuntimeException", "java/lang/Exception"]).filter goodWord, w ∈ wsX4_room := by decide +kernel
set_option maxHeartbeats 4000000 in
set_option maxRecDepth 100000 in
theorem x_room1 (l : Launch) (hl9 : l.stackTraces = false) (E : gE) (A : Nat → Prop) (g : Nat → Nat) (M : gM) (σ : Sg) (hv : VS σ) (hw : CW E g M σ) (x y : Int32) (hbad : ¬ (0 ≤ x ∧ x < nI (kR σ))) : vx_Met l yX4_room wsX4_room ({ frames := 6, cells := 1, slots := 6, locals := 140 } : Room) (Pz E A [.ref (g 0), .int x, .int y] (mP E A g M)) (fun _ _ _ _ => False) (XE "java/lang/IndexOutOfBoundsException") 1 6 (fun _ => False) := by
  refine x_entry (by decide) rfl (Nat.le_of_ble_eq_true rfl) ?_
  intro p e s m args below meth c hx hb hr hml hts hown hlocks hin hM hK hZ hnt ls hl
  have hl : lv_has ls 4 [(0, .ref (g 0)), (1, .int x), (2, .int y)] := hl
  have hown : s.vm.findClass RX4 = some m.cls := hown
  obtain ⟨⟨hR9, hG9, hU9, hD9⟩, -⟩ := id hv
  obtain ⟨mc1, el1, h1, -⟩ := CW.LR hw
  obtain ⟨mc2, el2, h2, -⟩ := CW.LG hw
  obtain ⟨mc3, el3, h3, -⟩ := CW.LU hw
  refine lv_aload_n hx hb dX4_room_0 rfl (lv_at hl 0 rfl) ?_
  refine lv_iload_n hx hb dX4_room_1 rfl (lv_at hl 1 rfl) ?_
  refine m_cV 1 [.int x] [] hx hb hml hown hts hK (c_isRoom l E A g M σ hv hw x) gX4_room_X4_isRoom rfl rfl rfl (by decide +kernel) rfl ⟨Nat.le_of_ble_eq_true rfl, Nat.le_of_ble_eq_true rfl⟩ hM (CW.x hw) rfl rfl hM hl.1 (Nat.le_of_ble_eq_true rfl) ⟨Nat.le_of_ble_eq_true rfl, Nat.le_of_ble_eq_true rfl⟩ rfl dX4_room_2 ?_
  refine lv_if_ne (tgt := 18) hx hb dX4_room_5 (by decide) (fun c9 => absurd (of_decide_eq_true (bI_t c9)) hbad) (fun c5 => ?_)
  have c5 := of_decide_eq_false (bI_f c5)
  obtain ⟨sa9, hsa9⟩ := hZ.txt (q := (64, "no such room")) (by decide +kernel)
  exact vx_throwS (A := A) hx hb hl9 (cls := "java/lang/IndexOutOfBoundsException") (names := ["java/lang/RuntimeException", "java/lang/Exception"]) hown (by decide +kernel) (by decide +kernel) (hts (.classLink RX4 62 "java/lang/IndexOutOfBoundsException") (by decide +kernel)) (hts (.initialized "java/lang/IndexOutOfBoundsException") (by decide +kernel)) hsa9 (x_at66 hZ (fun w h => hts w (xs_X4_room_66 w h))) x_good66 hZ.2.2.2.1 hZ.2.2.2.2 va_S.rf (hl.1.trans hml.symm) dX4_room_8 dX4_room_11 dX4_room_12 dX4_room_14 dX4_room_17 (fun x h => (hnt x h).elim) (Nat.le_of_ble_eq_true rfl) (Nat.le_of_ble_eq_true rfl) (Nat.le_of_ble_eq_true rfl) (Nat.le_of_ble_eq_true rfl) hlocks (fun t _ h1 h2 => ⟨rfl, h1, fun q h3 _ => h2 q h3⟩) (fun z h => nomatch h) (Nat.le_of_ble_eq_true rfl) (Nat.le_of_ble_eq_true rfl)
set_option maxHeartbeats 4000000 in
set_option maxRecDepth 100000 in
theorem x_room2 (l : Launch) (hl9 : l.stackTraces = false) (E : gE) (A : Nat → Prop) (g : Nat → Nat) (M : gM) (σ : Sg) (hv : VS σ) (hw : CW E g M σ) (k : Nat) (hk : k < kR σ) (y : Int32) (hbad : ¬ (0 ≤ y ∧ y ≤ 5)) : vx_Met l yX4_room wsX4_room ({ frames := 6, cells := 1, slots := 6, locals := 140 } : Room) (Pz E A [.ref (g 0), .int (nI k), .int y] (mP E A g M)) (fun _ _ _ _ => False) (XE "java/lang/IndexOutOfBoundsException") 1 6 (fun _ => False) := by
  refine x_entry (by decide) rfl (Nat.le_of_ble_eq_true rfl) ?_
  intro p e s m args below meth c hx hb hr hml hts hown hlocks hin hM hK hZ hnt ls hl
  have hl : lv_has ls 4 [(0, .ref (g 0)), (1, .int (nI k)), (2, .int y)] := hl
  have hown : s.vm.findClass RX4 = some m.cls := hown
  obtain ⟨⟨hR9, hG9, hU9, hD9⟩, -⟩ := id hv
  obtain ⟨mc1, el1, h1, -⟩ := CW.LR hw
  obtain ⟨mc2, el2, h2, -⟩ := CW.LG hw
  obtain ⟨mc3, el3, h3, -⟩ := CW.LU hw
  refine lv_aload_n hx hb dX4_room_0 rfl (lv_at hl 0 rfl) ?_
  refine lv_iload_n hx hb dX4_room_1 rfl (lv_at hl 1 rfl) ?_
  refine m_cV 1 [.int (nI k)] [] hx hb hml hown hts hK (c_isRoomY l E A g M σ hv hw k (by omega)) gX4_room_X4_isRoom rfl rfl rfl (by decide +kernel) rfl ⟨Nat.le_of_ble_eq_true rfl, Nat.le_of_ble_eq_true rfl⟩ hM (CW.x hw) rfl rfl hM hl.1 (Nat.le_of_ble_eq_true rfl) ⟨Nat.le_of_ble_eq_true rfl, Nat.le_of_ble_eq_true rfl⟩ rfl dX4_room_2 ?_
  refine lv_if_ne (tgt := 18) hx hb dX4_room_5 (by decide) (fun c9 => ?_) (fun c9 => absurd c9 (by decide))
  refine lv_aload_n hx hb dX4_room_18 rfl (lv_at hl 0 rfl) ?_
  refine m_get hx hb hts in_X4_room_X4 hown hK hM (CW.x hw) rfl 0 (by decide) (by decide +kernel) rfl dX4_room_19 ?_
  refine lv_iload_n hx hb dX4_room_22 rfl (lv_at hl 1 rfl) ?_
  refine m_cV 1 [.int (nI k)] [] hx hb hml hown hts hK (c_get l E A g M (CW.LR hw) (by omega) k (by omega)) gX4_room_Jx4a65c_get_915e3 rfl rfl rfl (by decide +kernel) rfl ⟨Nat.le_of_ble_eq_true rfl, Nat.le_of_ble_eq_true rfl⟩ hM h1 rfl rfl hM hl.1 (Nat.le_of_ble_eq_true rfl) ⟨Nat.le_of_ble_eq_true rfl, Nat.le_of_ble_eq_true rfl⟩ rfl dX4_room_23 ?_
  refine m_cast (ci := 3) hx hb hts hown (by decide +kernel) hK hM (CW.room hw (i := k) (by omega)) rfl dX4_room_26 ?_
  refine lv_astore_n (lv' := [(3, .ref (g (100 + k))), (0, .ref (g 0)), (1, .int (nI k)), (2, .int y)]) hx hb dX4_room_29 rfl hl (by decide) rfl (fun ls hl => ?_)
  refine lv_iload_n hx hb dX4_room_30 rfl (lv_at hl 3 rfl) ?_
  refine lv_tableOut (tgt := 98) hx hb dX4_room_31 (x_out (m := 5) (by decide) hbad) (by decide) ?_
  obtain ⟨sa9, hsa9⟩ := hZ.txt (q := (139, "a room has no such figure")) (by decide +kernel)
  exact vx_throwS (A := A) hx hb hl9 (cls := "java/lang/IndexOutOfBoundsException") (names := ["java/lang/RuntimeException", "java/lang/Exception"]) hown (by decide +kernel) (by decide +kernel) (hts (.classLink RX4 62 "java/lang/IndexOutOfBoundsException") (by decide +kernel)) (hts (.initialized "java/lang/IndexOutOfBoundsException") (by decide +kernel)) hsa9 (x_at66 hZ (fun w h => hts w (xs_X4_room_66 w h))) x_good66 hZ.2.2.2.1 hZ.2.2.2.2 va_S.rf (hl.1.trans hml.symm) dX4_room_98 dX4_room_101 dX4_room_102 dX4_room_104 dX4_room_107 (fun x h => (hnt x h).elim) (Nat.le_of_ble_eq_true rfl) (Nat.le_of_ble_eq_true rfl) (Nat.le_of_ble_eq_true rfl) (Nat.le_of_ble_eq_true rfl) hlocks (fun t _ h1 h2 => ⟨rfl, h1, fun q h3 _ => h2 q h3⟩) (fun z h => nomatch h) (Nat.le_of_ble_eq_true rfl) (Nat.le_of_ble_eq_true rfl)
theorem xs_X4_guest_66 : ∀ w ∈ (vx_atS RX4 66 "java/lang/IndexOutOfBoundsException" ["java/lang/RuntimeException", "java/lang/Exception"]).filter goodWord, w ∈ wsX4_guest := by decide +kernel
set_option maxHeartbeats 4000000 in
set_option maxRecDepth 100000 in
theorem x_guest1 (l : Launch) (hl9 : l.stackTraces = false) (E : gE) (A : Nat → Prop) (g : Nat → Nat) (M : gM) (σ : Sg) (hv : VS σ) (hw : CW E g M σ) (x y : Int32) (hbad : ¬ (0 ≤ x ∧ x < nI (kU σ))) : vx_Met l yX4_guest wsX4_guest ({ frames := 6, cells := 1, slots := 6, locals := 140 } : Room) (Pz E A [.ref (g 0), .int x, .int y] (mP E A g M)) (fun _ _ _ _ => False) (XE "java/lang/IndexOutOfBoundsException") 1 6 (fun _ => False) := by
  refine x_entry (by decide) rfl (Nat.le_of_ble_eq_true rfl) ?_
  intro p e s m args below meth c hx hb hr hml hts hown hlocks hin hM hK hZ hnt ls hl
  have hl : lv_has ls 4 [(0, .ref (g 0)), (1, .int x), (2, .int y)] := hl
  have hown : s.vm.findClass RX4 = some m.cls := hown
  obtain ⟨⟨hR9, hG9, hU9, hD9⟩, -⟩ := id hv
  obtain ⟨mc1, el1, h1, -⟩ := CW.LR hw
  obtain ⟨mc2, el2, h2, -⟩ := CW.LG hw
  obtain ⟨mc3, el3, h3, -⟩ := CW.LU hw
  refine lv_aload_n hx hb dX4_guest_0 rfl (lv_at hl 0 rfl) ?_
  refine lv_iload_n hx hb dX4_guest_1 rfl (lv_at hl 1 rfl) ?_
  refine m_cV 1 [.int x] [] hx hb hml hown hts hK (c_isGuest l E A g M σ hv hw x) gX4_guest_X4_isGuest rfl rfl rfl (by decide +kernel) rfl ⟨Nat.le_of_ble_eq_true rfl, Nat.le_of_ble_eq_true rfl⟩ hM (CW.x hw) rfl rfl hM hl.1 (Nat.le_of_ble_eq_true rfl) ⟨Nat.le_of_ble_eq_true rfl, Nat.le_of_ble_eq_true rfl⟩ rfl dX4_guest_2 ?_
  refine lv_if_ne (tgt := 18) hx hb dX4_guest_5 (by decide) (fun c9 => absurd (of_decide_eq_true (bI_t c9)) hbad) (fun c5 => ?_)
  have c5 := of_decide_eq_false (bI_f c5)
  obtain ⟨sa9, hsa9⟩ := hZ.txt (q := (151, "no such guest")) (by decide +kernel)
  exact vx_throwS (A := A) hx hb hl9 (cls := "java/lang/IndexOutOfBoundsException") (names := ["java/lang/RuntimeException", "java/lang/Exception"]) hown (by decide +kernel) (by decide +kernel) (hts (.classLink RX4 62 "java/lang/IndexOutOfBoundsException") (by decide +kernel)) (hts (.initialized "java/lang/IndexOutOfBoundsException") (by decide +kernel)) hsa9 (x_at66 hZ (fun w h => hts w (xs_X4_guest_66 w h))) x_good66 hZ.2.2.2.1 hZ.2.2.2.2 va_S.rf (hl.1.trans hml.symm) dX4_guest_8 dX4_guest_11 dX4_guest_12 dX4_guest_14 dX4_guest_17 (fun x h => (hnt x h).elim) (Nat.le_of_ble_eq_true rfl) (Nat.le_of_ble_eq_true rfl) (Nat.le_of_ble_eq_true rfl) (Nat.le_of_ble_eq_true rfl) hlocks (fun t _ h1 h2 => ⟨rfl, h1, fun q h3 _ => h2 q h3⟩) (fun z h => nomatch h) (Nat.le_of_ble_eq_true rfl) (Nat.le_of_ble_eq_true rfl)
set_option maxHeartbeats 4000000 in
set_option maxRecDepth 100000 in
theorem x_guest2 (l : Launch) (hl9 : l.stackTraces = false) (E : gE) (A : Nat → Prop) (g : Nat → Nat) (M : gM) (σ : Sg) (hv : VS σ) (hw : CW E g M σ) (k : Nat) (hk : k < kU σ) (y : Int32) (hbad : ¬ (0 ≤ y ∧ y ≤ 6)) : vx_Met l yX4_guest wsX4_guest ({ frames := 6, cells := 1, slots := 6, locals := 140 } : Room) (Pz E A [.ref (g 0), .int (nI k), .int y] (mP E A g M)) (fun _ _ _ _ => False) (XE "java/lang/IndexOutOfBoundsException") 1 6 (fun _ => False) := by
  refine x_entry (by decide) rfl (Nat.le_of_ble_eq_true rfl) ?_
  intro p e s m args below meth c hx hb hr hml hts hown hlocks hin hM hK hZ hnt ls hl
  have hl : lv_has ls 4 [(0, .ref (g 0)), (1, .int (nI k)), (2, .int y)] := hl
  have hown : s.vm.findClass RX4 = some m.cls := hown
  obtain ⟨⟨hR9, hG9, hU9, hD9⟩, -⟩ := id hv
  obtain ⟨mc1, el1, h1, -⟩ := CW.LR hw
  obtain ⟨mc2, el2, h2, -⟩ := CW.LG hw
  obtain ⟨mc3, el3, h3, -⟩ := CW.LU hw
  refine lv_aload_n hx hb dX4_guest_0 rfl (lv_at hl 0 rfl) ?_
  refine lv_iload_n hx hb dX4_guest_1 rfl (lv_at hl 1 rfl) ?_
  refine m_cV 1 [.int (nI k)] [] hx hb hml hown hts hK (c_isGuestY l E A g M σ hv hw k (by omega)) gX4_guest_X4_isGuest rfl rfl rfl (by decide +kernel) rfl ⟨Nat.le_of_ble_eq_true rfl, Nat.le_of_ble_eq_true rfl⟩ hM (CW.x hw) rfl rfl hM hl.1 (Nat.le_of_ble_eq_true rfl) ⟨Nat.le_of_ble_eq_true rfl, Nat.le_of_ble_eq_true rfl⟩ rfl dX4_guest_2 ?_
  refine lv_if_ne (tgt := 18) hx hb dX4_guest_5 (by decide) (fun c9 => ?_) (fun c9 => absurd c9 (by decide))
  refine lv_aload_n hx hb dX4_guest_18 rfl (lv_at hl 0 rfl) ?_
  refine m_get hx hb hts in_X4_guest_X4 hown hK hM (CW.x hw) rfl 2 (by decide) (by decide +kernel) rfl dX4_guest_19 ?_
  refine lv_iload_n hx hb dX4_guest_22 rfl (lv_at hl 1 rfl) ?_
  refine m_cV 1 [.int (nI k)] [] hx hb hml hown hts hK (c_get l E A g M (CW.LU hw) (by omega) k (by omega)) gX4_guest_Jx4a65c_get_915e3 rfl rfl rfl (by decide +kernel) rfl ⟨Nat.le_of_ble_eq_true rfl, Nat.le_of_ble_eq_true rfl⟩ hM h3 rfl rfl hM hl.1 (Nat.le_of_ble_eq_true rfl) ⟨Nat.le_of_ble_eq_true rfl, Nat.le_of_ble_eq_true rfl⟩ rfl dX4_guest_23 ?_
  refine m_cast (ci := 2) hx hb hts hown (by decide +kernel) hK hM (CW.guest hw (i := k) (by omega)) rfl dX4_guest_26 ?_
  refine lv_astore_n (lv' := [(3, .ref (g (400 + k))), (0, .ref (g 0)), (1, .int (nI k)), (2, .int y)]) hx hb dX4_guest_29 rfl hl (by decide) rfl (fun ls hl => ?_)
  refine lv_iload_n hx hb dX4_guest_30 rfl (lv_at hl 3 rfl) ?_
  refine lv_tableOut (tgt := 107) hx hb dX4_guest_31 (x_out (m := 6) (by decide) hbad) (by decide) ?_
  obtain ⟨sa9, hsa9⟩ := hZ.txt (q := (185, "a guest has no such figure")) (by decide +kernel)
  exact vx_throwS (A := A) hx hb hl9 (cls := "java/lang/IndexOutOfBoundsException") (names := ["java/lang/RuntimeException", "java/lang/Exception"]) hown (by decide +kernel) (by decide +kernel) (hts (.classLink RX4 62 "java/lang/IndexOutOfBoundsException") (by decide +kernel)) (hts (.initialized "java/lang/IndexOutOfBoundsException") (by decide +kernel)) hsa9 (x_at66 hZ (fun w h => hts w (xs_X4_guest_66 w h))) x_good66 hZ.2.2.2.1 hZ.2.2.2.2 va_S.rf (hl.1.trans hml.symm) dX4_guest_107 dX4_guest_110 dX4_guest_111 dX4_guest_113 dX4_guest_116 (fun x h => (hnt x h).elim) (Nat.le_of_ble_eq_true rfl) (Nat.le_of_ble_eq_true rfl) (Nat.le_of_ble_eq_true rfl) (Nat.le_of_ble_eq_true rfl) hlocks (fun t _ h1 h2 => ⟨rfl, h1, fun q h3 _ => h2 q h3⟩) (fun z h => nomatch h) (Nat.le_of_ble_eq_true rfl) (Nat.le_of_ble_eq_true rfl)
theorem xs_X4_wins_66 : ∀ w ∈ (vx_atS RX4 66 "java/lang/IndexOutOfBoundsException" ["java/lang/RuntimeException", "java/lang/Exception"]).filter goodWord, w ∈ wsX4_wins := by decide +kernel
set_option maxHeartbeats 4000000 in
set_option maxRecDepth 100000 in
theorem x_wins1 (l : Launch) (hl9 : l.stackTraces = false) (E : gE) (A : Nat → Prop) (g : Nat → Nat) (M : gM) (σ : Sg) (hv : VS σ) (hw : CW E g M σ) (x y : Int32) (hbad : ¬ (0 ≤ x ∧ x < nI (kR σ))) : vx_Met l yX4_wins wsX4_wins ({ frames := 6, cells := 1, slots := 6, locals := 140 } : Room) (Pz E A [.ref (g 0), .int x, .int y] (mP E A g M)) (fun _ _ _ _ => False) (XE "java/lang/IndexOutOfBoundsException") 1 6 (fun _ => False) := by
  refine x_entry (by decide) rfl (Nat.le_of_ble_eq_true rfl) ?_
  intro p e s m args below meth c hx hb hr hml hts hown hlocks hin hM hK hZ hnt ls hl
  have hl : lv_has ls 3 [(0, .ref (g 0)), (1, .int x), (2, .int y)] := hl
  have hown : s.vm.findClass RX4 = some m.cls := hown
  obtain ⟨⟨hR9, hG9, hU9, hD9⟩, -⟩ := id hv
  obtain ⟨mc1, el1, h1, -⟩ := CW.LR hw
  obtain ⟨mc2, el2, h2, -⟩ := CW.LG hw
  obtain ⟨mc3, el3, h3, -⟩ := CW.LU hw
  refine lv_aload_n hx hb dX4_wins_0 rfl (lv_at hl 0 rfl) ?_
  refine lv_iload_n hx hb dX4_wins_1 rfl (lv_at hl 1 rfl) ?_
  refine m_cV 1 [.int x] [] hx hb hml hown hts hK (c_isRoom l E A g M σ hv hw x) gX4_wins_X4_isRoom rfl rfl rfl (by decide +kernel) rfl ⟨Nat.le_of_ble_eq_true rfl, Nat.le_of_ble_eq_true rfl⟩ hM (CW.x hw) rfl rfl hM hl.1 (Nat.le_of_ble_eq_true rfl) ⟨Nat.le_of_ble_eq_true rfl, Nat.le_of_ble_eq_true rfl⟩ rfl dX4_wins_2 ?_
  refine lv_if_ne (tgt := 18) hx hb dX4_wins_5 (by decide) (fun c9 => absurd (of_decide_eq_true (bI_t c9)) hbad) (fun c5 => ?_)
  have c5 := of_decide_eq_false (bI_f c5)
  obtain ⟨sa9, hsa9⟩ := hZ.txt (q := (64, "no such room")) (by decide +kernel)
  exact vx_throwS (A := A) hx hb hl9 (cls := "java/lang/IndexOutOfBoundsException") (names := ["java/lang/RuntimeException", "java/lang/Exception"]) hown (by decide +kernel) (by decide +kernel) (hts (.classLink RX4 62 "java/lang/IndexOutOfBoundsException") (by decide +kernel)) (hts (.initialized "java/lang/IndexOutOfBoundsException") (by decide +kernel)) hsa9 (x_at66 hZ (fun w h => hts w (xs_X4_wins_66 w h))) x_good66 hZ.2.2.2.1 hZ.2.2.2.2 va_S.rf (hl.1.trans hml.symm) dX4_wins_8 dX4_wins_11 dX4_wins_12 dX4_wins_14 dX4_wins_17 (fun x h => (hnt x h).elim) (Nat.le_of_ble_eq_true rfl) (Nat.le_of_ble_eq_true rfl) (Nat.le_of_ble_eq_true rfl) (Nat.le_of_ble_eq_true rfl) hlocks (fun t _ h1 h2 => ⟨rfl, h1, fun q h3 _ => h2 q h3⟩) (fun z h => nomatch h) (Nat.le_of_ble_eq_true rfl) (Nat.le_of_ble_eq_true rfl)
set_option maxHeartbeats 4000000 in
set_option maxRecDepth 100000 in
theorem x_wins2 (l : Launch) (hl9 : l.stackTraces = false) (E : gE) (A : Nat → Prop) (g : Nat → Nat) (M : gM) (σ : Sg) (hv : VS σ) (hw : CW E g M σ) (k : Nat) (hk : k < kR σ) (y : Int32) (hbad : ¬ (0 ≤ y ∧ y ≤ 2)) : vx_Met l yX4_wins wsX4_wins ({ frames := 6, cells := 1, slots := 6, locals := 140 } : Room) (Pz E A [.ref (g 0), .int (nI k), .int y] (mP E A g M)) (fun _ _ _ _ => False) (XE "java/lang/IndexOutOfBoundsException") 1 6 (fun _ => False) := by
  refine x_entry (by decide) rfl (Nat.le_of_ble_eq_true rfl) ?_
  intro p e s m args below meth c hx hb hr hml hts hown hlocks hin hM hK hZ hnt ls hl
  have hl : lv_has ls 3 [(0, .ref (g 0)), (1, .int (nI k)), (2, .int y)] := hl
  have hown : s.vm.findClass RX4 = some m.cls := hown
  obtain ⟨⟨hR9, hG9, hU9, hD9⟩, -⟩ := id hv
  obtain ⟨mc1, el1, h1, -⟩ := CW.LR hw
  obtain ⟨mc2, el2, h2, -⟩ := CW.LG hw
  obtain ⟨mc3, el3, h3, -⟩ := CW.LU hw
  refine lv_aload_n hx hb dX4_wins_0 rfl (lv_at hl 0 rfl) ?_
  refine lv_iload_n hx hb dX4_wins_1 rfl (lv_at hl 1 rfl) ?_
  refine m_cV 1 [.int (nI k)] [] hx hb hml hown hts hK (c_isRoomY l E A g M σ hv hw k (by omega)) gX4_wins_X4_isRoom rfl rfl rfl (by decide +kernel) rfl ⟨Nat.le_of_ble_eq_true rfl, Nat.le_of_ble_eq_true rfl⟩ hM (CW.x hw) rfl rfl hM hl.1 (Nat.le_of_ble_eq_true rfl) ⟨Nat.le_of_ble_eq_true rfl, Nat.le_of_ble_eq_true rfl⟩ rfl dX4_wins_2 ?_
  refine lv_if_ne (tgt := 18) hx hb dX4_wins_5 (by decide) (fun c9 => ?_) (fun c9 => absurd c9 (by decide))
  refine lv_iload_n hx hb dX4_wins_18 rfl (lv_at hl 2 rfl) ?_
  refine lv_tableOut (tgt := 67) hx hb dX4_wins_19 (x_out (m := 2) (by decide) hbad) (by decide) ?_
  obtain ⟨sa9, hsa9⟩ := hZ.txt (q := (196, "an auction has no such figure")) (by decide +kernel)
  exact vx_throwS (A := A) hx hb hl9 (cls := "java/lang/IndexOutOfBoundsException") (names := ["java/lang/RuntimeException", "java/lang/Exception"]) hown (by decide +kernel) (by decide +kernel) (hts (.classLink RX4 62 "java/lang/IndexOutOfBoundsException") (by decide +kernel)) (hts (.initialized "java/lang/IndexOutOfBoundsException") (by decide +kernel)) hsa9 (x_at66 hZ (fun w h => hts w (xs_X4_wins_66 w h))) x_good66 hZ.2.2.2.1 hZ.2.2.2.2 va_S.rf (hl.1.trans hml.symm) dX4_wins_67 dX4_wins_70 dX4_wins_71 dX4_wins_73 dX4_wins_76 (fun x h => (hnt x h).elim) (Nat.le_of_ble_eq_true rfl) (Nat.le_of_ble_eq_true rfl) (Nat.le_of_ble_eq_true rfl) (Nat.le_of_ble_eq_true rfl) hlocks (fun t _ h1 h2 => ⟨rfl, h1, fun q h3 _ => h2 q h3⟩) (fun z h => nomatch h) (Nat.le_of_ble_eq_true rfl) (Nat.le_of_ble_eq_true rfl)
theorem xs_X4_count_66 : ∀ w ∈ (vx_atS RX4 66 "java/lang/IndexOutOfBoundsException" ["java/lang/RuntimeException", "java/lang/Exception"]).filter goodWord, w ∈ wsX4_count := by decide +kernel
set_option maxHeartbeats 4000000 in
set_option maxRecDepth 100000 in
theorem x_count1 (l : Launch) (hl9 : l.stackTraces = false) (E : gE) (A : Nat → Prop) (g : Nat → Nat) (M : gM) (σ : Sg) (hv : VS σ) (hw : CW E g M σ) (y : Int32) (hbad : ¬ (0 ≤ y ∧ y ≤ 8)) : vx_Met l yX4_count wsX4_count ({ frames := 6, cells := 1, slots := 6, locals := 140 } : Room) (Pz E A [.ref (g 0), .int y] (mP E A g M)) (fun _ _ _ _ => False) (XE "java/lang/IndexOutOfBoundsException") 1 6 (fun _ => False) := by
  refine x_entry (by decide) rfl (Nat.le_of_ble_eq_true rfl) ?_
  intro p e s m args below meth c hx hb hr hml hts hown hlocks hin hM hK hZ hnt ls hl
  have hl : lv_has ls 2 [(0, .ref (g 0)), (1, .int y)] := hl
  have hown : s.vm.findClass RX4 = some m.cls := hown
  obtain ⟨⟨hR9, hG9, hU9, hD9⟩, -⟩ := id hv
  obtain ⟨mc1, el1, h1, -⟩ := CW.LR hw
  obtain ⟨mc2, el2, h2, -⟩ := CW.LG hw
  obtain ⟨mc3, el3, h3, -⟩ := CW.LU hw
  refine lv_iload_n hx hb dX4_count_0 rfl (lv_at hl 1 rfl) ?_
  refine lv_tableOut (tgt := 106) hx hb dX4_count_1 (x_out (m := 8) (by decide) hbad) (by decide) ?_
  obtain ⟨sa9, hsa9⟩ := hZ.txt (q := (214, "the inn has no such figure")) (by decide +kernel)
  exact vx_throwS (A := A) hx hb hl9 (cls := "java/lang/IndexOutOfBoundsException") (names := ["java/lang/RuntimeException", "java/lang/Exception"]) hown (by decide +kernel) (by decide +kernel) (hts (.classLink RX4 62 "java/lang/IndexOutOfBoundsException") (by decide +kernel)) (hts (.initialized "java/lang/IndexOutOfBoundsException") (by decide +kernel)) hsa9 (x_at66 hZ (fun w h => hts w (xs_X4_count_66 w h))) x_good66 hZ.2.2.2.1 hZ.2.2.2.2 va_S.rf (hl.1.trans hml.symm) dX4_count_106 dX4_count_109 dX4_count_110 dX4_count_112 dX4_count_115 (fun x h => (hnt x h).elim) (Nat.le_of_ble_eq_true rfl) (Nat.le_of_ble_eq_true rfl) (Nat.le_of_ble_eq_true rfl) (Nat.le_of_ble_eq_true rfl) hlocks (fun t _ h1 h2 => ⟨rfl, h1, fun q h3 _ => h2 q h3⟩) (fun z h => nomatch h) (Nat.le_of_ble_eq_true rfl) (Nat.le_of_ble_eq_true rfl)
theorem xs_X4_bid_66 : ∀ w ∈ (vx_atS RX4 66 "java/lang/IndexOutOfBoundsException" ["java/lang/RuntimeException", "java/lang/Exception"]).filter goodWord, w ∈ wsX4_bid := by decide +kernel
set_option maxHeartbeats 4000000 in
set_option maxRecDepth 100000 in
theorem x_bid1 (l : Launch) (hl9 : l.stackTraces = false) (E : gE) (A : Nat → Prop) (g : Nat → Nat) (M : gM) (σ : Sg) (hv : VS σ) (hw : CW E g M σ) (x y z : Int32) (hbad : ¬ (0 ≤ x ∧ x < nI (kU σ))) : vx_Met l yX4_bid wsX4_bid ({ frames := 6, cells := 1, slots := 6, locals := 140 } : Room) (Pz E A [.ref (g 0), .int x, .int y, .int z] (mP E A g M)) (fun _ _ _ _ => False) (XE "java/lang/IndexOutOfBoundsException") 1 6 (fun _ => False) := by
  refine x_entry (by decide) rfl (Nat.le_of_ble_eq_true rfl) ?_
  intro p e s m args below meth c hx hb hr hml hts hown hlocks hin hM hK hZ hnt ls hl
  have hl : lv_has ls 5 [(0, .ref (g 0)), (1, .int x), (2, .int y), (3, .int z)] := hl
  have hown : s.vm.findClass RX4 = some m.cls := hown
  obtain ⟨⟨hR9, hG9, hU9, hD9⟩, -⟩ := id hv
  obtain ⟨mc1, el1, h1, -⟩ := CW.LR hw
  obtain ⟨mc2, el2, h2, -⟩ := CW.LG hw
  obtain ⟨mc3, el3, h3, -⟩ := CW.LU hw
  refine lv_aload_n hx hb dX4_bid_0 rfl (lv_at hl 0 rfl) ?_
  refine lv_iload_n hx hb dX4_bid_1 rfl (lv_at hl 1 rfl) ?_
  refine m_cV 1 [.int x] [] hx hb hml hown hts hK (c_isGuest l E A g M σ hv hw x) gX4_bid_X4_isGuest rfl rfl rfl (by decide +kernel) rfl ⟨Nat.le_of_ble_eq_true rfl, Nat.le_of_ble_eq_true rfl⟩ hM (CW.x hw) rfl rfl hM hl.1 (Nat.le_of_ble_eq_true rfl) ⟨Nat.le_of_ble_eq_true rfl, Nat.le_of_ble_eq_true rfl⟩ rfl dX4_bid_2 ?_
  refine lv_if_ne (tgt := 18) hx hb dX4_bid_5 (by decide) (fun c9 => absurd (of_decide_eq_true (bI_t c9)) hbad) (fun c5 => ?_)
  have c5 := of_decide_eq_false (bI_f c5)
  obtain ⟨sa9, hsa9⟩ := hZ.txt (q := (151, "no such guest")) (by decide +kernel)
  exact vx_throwS (A := A) hx hb hl9 (cls := "java/lang/IndexOutOfBoundsException") (names := ["java/lang/RuntimeException", "java/lang/Exception"]) hown (by decide +kernel) (by decide +kernel) (hts (.classLink RX4 62 "java/lang/IndexOutOfBoundsException") (by decide +kernel)) (hts (.initialized "java/lang/IndexOutOfBoundsException") (by decide +kernel)) hsa9 (x_at66 hZ (fun w h => hts w (xs_X4_bid_66 w h))) x_good66 hZ.2.2.2.1 hZ.2.2.2.2 va_S.rf (hl.1.trans hml.symm) dX4_bid_8 dX4_bid_11 dX4_bid_12 dX4_bid_14 dX4_bid_17 (fun x h => (hnt x h).elim) (Nat.le_of_ble_eq_true rfl) (Nat.le_of_ble_eq_true rfl) (Nat.le_of_ble_eq_true rfl) (Nat.le_of_ble_eq_true rfl) hlocks (fun t _ h1 h2 => ⟨rfl, h1, fun q h3 _ => h2 q h3⟩) (fun z h => nomatch h) (Nat.le_of_ble_eq_true rfl) (Nat.le_of_ble_eq_true rfl)
set_option maxHeartbeats 4000000 in
set_option maxRecDepth 100000 in
theorem x_bid2 (l : Launch) (hl9 : l.stackTraces = false) (E : gE) (A : Nat → Prop) (g : Nat → Nat) (M : gM) (σ : Sg) (hv : VS σ) (hw : CW E g M σ) (u : Nat) (hu : u < kU σ) (y z : Int32) (hbad : ¬ (0 ≤ y ∧ y < nI (kR σ))) : vx_Met l yX4_bid wsX4_bid ({ frames := 6, cells := 1, slots := 6, locals := 140 } : Room) (Pz E A [.ref (g 0), .int (nI u), .int y, .int z] (mP E A g M)) (fun _ _ _ _ => False) (XE "java/lang/IndexOutOfBoundsException") 1 6 (fun _ => False) := by
  refine x_entry (by decide) rfl (Nat.le_of_ble_eq_true rfl) ?_
  intro p e s m args below meth c hx hb hr hml hts hown hlocks hin hM hK hZ hnt ls hl
  have hl : lv_has ls 5 [(0, .ref (g 0)), (1, .int (nI u)), (2, .int y), (3, .int z)] := hl
  have hown : s.vm.findClass RX4 = some m.cls := hown
  obtain ⟨⟨hR9, hG9, hU9, hD9⟩, -⟩ := id hv
  obtain ⟨mc1, el1, h1, -⟩ := CW.LR hw
  obtain ⟨mc2, el2, h2, -⟩ := CW.LG hw
  obtain ⟨mc3, el3, h3, -⟩ := CW.LU hw
  refine lv_aload_n hx hb dX4_bid_0 rfl (lv_at hl 0 rfl) ?_
  refine lv_iload_n hx hb dX4_bid_1 rfl (lv_at hl 1 rfl) ?_
  refine m_cV 1 [.int (nI u)] [] hx hb hml hown hts hK (c_isGuestY l E A g M σ hv hw u (by omega)) gX4_bid_X4_isGuest rfl rfl rfl (by decide +kernel) rfl ⟨Nat.le_of_ble_eq_true rfl, Nat.le_of_ble_eq_true rfl⟩ hM (CW.x hw) rfl rfl hM hl.1 (Nat.le_of_ble_eq_true rfl) ⟨Nat.le_of_ble_eq_true rfl, Nat.le_of_ble_eq_true rfl⟩ rfl dX4_bid_2 ?_
  refine lv_if_ne (tgt := 18) hx hb dX4_bid_5 (by decide) (fun c9 => ?_) (fun c9 => absurd c9 (by decide))
  refine lv_aload_n hx hb dX4_bid_18 rfl (lv_at hl 0 rfl) ?_
  refine lv_iload_n hx hb dX4_bid_19 rfl (lv_at hl 2 rfl) ?_
  refine m_cV 1 [.int y] [] hx hb hml hown hts hK (c_isRoom l E A g M σ hv hw y) gX4_bid_X4_isRoom rfl rfl rfl (by decide +kernel) rfl ⟨Nat.le_of_ble_eq_true rfl, Nat.le_of_ble_eq_true rfl⟩ hM (CW.x hw) rfl rfl hM hl.1 (Nat.le_of_ble_eq_true rfl) ⟨Nat.le_of_ble_eq_true rfl, Nat.le_of_ble_eq_true rfl⟩ rfl dX4_bid_20 ?_
  refine lv_if_ne (tgt := 36) hx hb dX4_bid_23 (by decide) (fun c9 => absurd (of_decide_eq_true (bI_t c9)) hbad) (fun c23 => ?_)
  have c23 := of_decide_eq_false (bI_f c23)
  obtain ⟨sa9, hsa9⟩ := hZ.txt (q := (64, "no such room")) (by decide +kernel)
  exact vx_throwS (A := A) hx hb hl9 (cls := "java/lang/IndexOutOfBoundsException") (names := ["java/lang/RuntimeException", "java/lang/Exception"]) hown (by decide +kernel) (by decide +kernel) (hts (.classLink RX4 62 "java/lang/IndexOutOfBoundsException") (by decide +kernel)) (hts (.initialized "java/lang/IndexOutOfBoundsException") (by decide +kernel)) hsa9 (x_at66 hZ (fun w h => hts w (xs_X4_bid_66 w h))) x_good66 hZ.2.2.2.1 hZ.2.2.2.2 va_S.rf (hl.1.trans hml.symm) dX4_bid_26 dX4_bid_29 dX4_bid_30 dX4_bid_32 dX4_bid_35 (fun x h => (hnt x h).elim) (Nat.le_of_ble_eq_true rfl) (Nat.le_of_ble_eq_true rfl) (Nat.le_of_ble_eq_true rfl) (Nat.le_of_ble_eq_true rfl) hlocks (fun t _ h1 h2 => ⟨rfl, h1, fun q h3 _ => h2 q h3⟩) (fun z h => nomatch h) (Nat.le_of_ble_eq_true rfl) (Nat.le_of_ble_eq_true rfl)
theorem xs_X4_bid_37 : ∀ w ∈ (vx_atS RX4 37 "java/lang/IllegalArgumentException" ["java/lang/RuntimeException", "java/lang/Exception"]).filter goodWord, w ∈ wsX4_bid := by decide +kernel
set_option maxHeartbeats 4000000 in
set_option maxRecDepth 100000 in
theorem x_bid3 (l : Launch) (hl9 : l.stackTraces = false) (E : gE) (A : Nat → Prop) (g : Nat → Nat) (M : gM) (σ : Sg) (hv : VS σ) (hw : CW E g M σ) (u k : Nat) (hu : u < kU σ) (hk : k < kR σ) (z : Int32) (hbad : ¬ (1 ≤ z ∧ z ≤ 200)) : vx_Met l yX4_bid wsX4_bid ({ frames := 6, cells := 1, slots := 6, locals := 140 } : Room) (Pz E A [.ref (g 0), .int (nI u), .int (nI k), .int z] (mP E A g M)) (fun _ _ _ _ => False) (XE "java/lang/IllegalArgumentException") 1 6 (fun _ => False) := by
  refine x_entry (by decide) rfl (Nat.le_of_ble_eq_true rfl) ?_
  intro p e s m args below meth c hx hb hr hml hts hown hlocks hin hM hK hZ hnt ls hl
  have hl : lv_has ls 5 [(0, .ref (g 0)), (1, .int (nI u)), (2, .int (nI k)), (3, .int z)] := hl
  have hown : s.vm.findClass RX4 = some m.cls := hown
  obtain ⟨⟨hR9, hG9, hU9, hD9⟩, -⟩ := id hv
  obtain ⟨mc1, el1, h1, -⟩ := CW.LR hw
  obtain ⟨mc2, el2, h2, -⟩ := CW.LG hw
  obtain ⟨mc3, el3, h3, -⟩ := CW.LU hw
  refine lv_aload_n hx hb dX4_bid_0 rfl (lv_at hl 0 rfl) ?_
  refine lv_iload_n hx hb dX4_bid_1 rfl (lv_at hl 1 rfl) ?_
  refine m_cV 1 [.int (nI u)] [] hx hb hml hown hts hK (c_isGuestY l E A g M σ hv hw u (by omega)) gX4_bid_X4_isGuest rfl rfl rfl (by decide +kernel) rfl ⟨Nat.le_of_ble_eq_true rfl, Nat.le_of_ble_eq_true rfl⟩ hM (CW.x hw) rfl rfl hM hl.1 (Nat.le_of_ble_eq_true rfl) ⟨Nat.le_of_ble_eq_true rfl, Nat.le_of_ble_eq_true rfl⟩ rfl dX4_bid_2 ?_
  refine lv_if_ne (tgt := 18) hx hb dX4_bid_5 (by decide) (fun c9 => ?_) (fun c9 => absurd c9 (by decide))
  refine lv_aload_n hx hb dX4_bid_18 rfl (lv_at hl 0 rfl) ?_
  refine lv_iload_n hx hb dX4_bid_19 rfl (lv_at hl 2 rfl) ?_
  refine m_cV 1 [.int (nI k)] [] hx hb hml hown hts hK (c_isRoomY l E A g M σ hv hw k (by omega)) gX4_bid_X4_isRoom rfl rfl rfl (by decide +kernel) rfl ⟨Nat.le_of_ble_eq_true rfl, Nat.le_of_ble_eq_true rfl⟩ hM (CW.x hw) rfl rfl hM hl.1 (Nat.le_of_ble_eq_true rfl) ⟨Nat.le_of_ble_eq_true rfl, Nat.le_of_ble_eq_true rfl⟩ rfl dX4_bid_20 ?_
  refine lv_if_ne (tgt := 36) hx hb dX4_bid_23 (by decide) (fun c9 => ?_) (fun c9 => absurd c9 (by decide))
  refine lv_iload_n hx hb dX4_bid_36 rfl (lv_at hl 3 rfl) ?_
  refine lv_iconst (v := 1) hx hb dX4_bid_37 (by decide) ?_
  refine lv_sipush (v := 200) hx hb dX4_bid_38 (by decide) ?_
  refine m_cS 3 [.int z, .int 1, .int 200] [] hx hb hml hown hts hK (c_within l E A g M z 1 200) gX4_bid_X4_within rfl rfl rfl (by decide +kernel) rfl ⟨Nat.le_of_ble_eq_true rfl, Nat.le_of_ble_eq_true rfl⟩ trivial hl.1 (Nat.le_of_ble_eq_true rfl) ⟨Nat.le_of_ble_eq_true rfl, Nat.le_of_ble_eq_true rfl⟩ rfl dX4_bid_41 ?_
  refine lv_if_ne (tgt := 57) hx hb dX4_bid_44 (by decide) (fun c9 => absurd (of_decide_eq_true (bI_t c9)) hbad) (fun c44 => ?_)
  have c44 := of_decide_eq_false (bI_f c44)
  obtain ⟨sa9, hsa9⟩ := hZ.txt (q := (153, "no such price")) (by decide +kernel)
  exact vx_throwS (A := A) hx hb hl9 (cls := "java/lang/IllegalArgumentException") (names := ["java/lang/RuntimeException", "java/lang/Exception"]) hown (by decide +kernel) (by decide +kernel) (hts (.classLink RX4 33 "java/lang/IllegalArgumentException") (by decide +kernel)) (hts (.initialized "java/lang/IllegalArgumentException") (by decide +kernel)) hsa9 (x_at37 hZ (fun w h => hts w (xs_X4_bid_37 w h))) x_good37 hZ.2.2.2.1 hZ.2.2.2.2 va_S.rf (hl.1.trans hml.symm) dX4_bid_47 dX4_bid_50 dX4_bid_51 dX4_bid_53 dX4_bid_56 (fun x h => (hnt x h).elim) (Nat.le_of_ble_eq_true rfl) (Nat.le_of_ble_eq_true rfl) (Nat.le_of_ble_eq_true rfl) (Nat.le_of_ble_eq_true rfl) hlocks (fun t _ h1 h2 => ⟨rfl, h1, fun q h3 _ => h2 q h3⟩) (fun z h => nomatch h) (Nat.le_of_ble_eq_true rfl) (Nat.le_of_ble_eq_true rfl)
theorem xs_X4_leave_66 : ∀ w ∈ (vx_atS RX4 66 "java/lang/IndexOutOfBoundsException" ["java/lang/RuntimeException", "java/lang/Exception"]).filter goodWord, w ∈ wsX4_leave := by decide +kernel
set_option maxHeartbeats 4000000 in
set_option maxRecDepth 100000 in
theorem x_leave1 (l : Launch) (hl9 : l.stackTraces = false) (E : gE) (A : Nat → Prop) (g : Nat → Nat) (M : gM) (σ : Sg) (hv : VS σ) (hw : CW E g M σ) (x : Int32) (hbad : ¬ (0 ≤ x ∧ x < nI (kU σ))) : vx_Met l yX4_leave wsX4_leave ({ frames := 6, cells := 1, slots := 6, locals := 140 } : Room) (Pz E A [.ref (g 0), .int x] (mP E A g M)) (fun _ _ _ _ => False) (XE "java/lang/IndexOutOfBoundsException") 1 6 (fun _ => False) := by
  refine x_entry (by decide) rfl (Nat.le_of_ble_eq_true rfl) ?_
  intro p e s m args below meth c hx hb hr hml hts hown hlocks hin hM hK hZ hnt ls hl
  have hl : lv_has ls 4 [(0, .ref (g 0)), (1, .int x)] := hl
  have hown : s.vm.findClass RX4 = some m.cls := hown
  obtain ⟨⟨hR9, hG9, hU9, hD9⟩, -⟩ := id hv
  obtain ⟨mc1, el1, h1, -⟩ := CW.LR hw
  obtain ⟨mc2, el2, h2, -⟩ := CW.LG hw
  obtain ⟨mc3, el3, h3, -⟩ := CW.LU hw
  refine lv_aload_n hx hb dX4_leave_0 rfl (lv_at hl 0 rfl) ?_
  refine lv_iload_n hx hb dX4_leave_1 rfl (lv_at hl 1 rfl) ?_
  refine m_cV 1 [.int x] [] hx hb hml hown hts hK (c_isGuest l E A g M σ hv hw x) gX4_leave_X4_isGuest rfl rfl rfl (by decide +kernel) rfl ⟨Nat.le_of_ble_eq_true rfl, Nat.le_of_ble_eq_true rfl⟩ hM (CW.x hw) rfl rfl hM hl.1 (Nat.le_of_ble_eq_true rfl) ⟨Nat.le_of_ble_eq_true rfl, Nat.le_of_ble_eq_true rfl⟩ rfl dX4_leave_2 ?_
  refine lv_if_ne (tgt := 18) hx hb dX4_leave_5 (by decide) (fun c9 => absurd (of_decide_eq_true (bI_t c9)) hbad) (fun c5 => ?_)
  have c5 := of_decide_eq_false (bI_f c5)
  obtain ⟨sa9, hsa9⟩ := hZ.txt (q := (151, "no such guest")) (by decide +kernel)
  exact vx_throwS (A := A) hx hb hl9 (cls := "java/lang/IndexOutOfBoundsException") (names := ["java/lang/RuntimeException", "java/lang/Exception"]) hown (by decide +kernel) (by decide +kernel) (hts (.classLink RX4 62 "java/lang/IndexOutOfBoundsException") (by decide +kernel)) (hts (.initialized "java/lang/IndexOutOfBoundsException") (by decide +kernel)) hsa9 (x_at66 hZ (fun w h => hts w (xs_X4_leave_66 w h))) x_good66 hZ.2.2.2.1 hZ.2.2.2.2 va_S.rf (hl.1.trans hml.symm) dX4_leave_8 dX4_leave_11 dX4_leave_12 dX4_leave_14 dX4_leave_17 (fun x h => (hnt x h).elim) (Nat.le_of_ble_eq_true rfl) (Nat.le_of_ble_eq_true rfl) (Nat.le_of_ble_eq_true rfl) (Nat.le_of_ble_eq_true rfl) hlocks (fun t _ h1 h2 => ⟨rfl, h1, fun q h3 _ => h2 q h3⟩) (fun z h => nomatch h) (Nat.le_of_ble_eq_true rfl) (Nat.le_of_ble_eq_true rfl)
theorem xs_X4_best_66 : ∀ w ∈ (vx_atS RX4 66 "java/lang/IndexOutOfBoundsException" ["java/lang/RuntimeException", "java/lang/Exception"]).filter goodWord, w ∈ wsX4_best := by decide +kernel
set_option maxHeartbeats 4000000 in
set_option maxRecDepth 100000 in
theorem x_best1 (l : Launch) (hl9 : l.stackTraces = false) (E : gE) (A : Nat → Prop) (g : Nat → Nat) (M : gM) (σ : Sg) (hv : VS σ) (hw : CW E g M σ) (x : Int32) (hbad : ¬ (0 ≤ x ∧ x < nI (kU σ))) : vx_Met l yX4_best wsX4_best ({ frames := 6, cells := 1, slots := 6, locals := 140 } : Room) (Pz E A [.ref (g 0), .int x] (mP E A g M)) (fun _ _ _ _ => False) (XE "java/lang/IndexOutOfBoundsException") 1 6 (fun _ => False) := by
  refine x_entry (by decide) rfl (Nat.le_of_ble_eq_true rfl) ?_
  intro p e s m args below meth c hx hb hr hml hts hown hlocks hin hM hK hZ hnt ls hl
  have hl : lv_has ls 7 [(0, .ref (g 0)), (1, .int x)] := hl
  have hown : s.vm.findClass RX4 = some m.cls := hown
  obtain ⟨⟨hR9, hG9, hU9, hD9⟩, -⟩ := id hv
  obtain ⟨mc1, el1, h1, -⟩ := CW.LR hw
  obtain ⟨mc2, el2, h2, -⟩ := CW.LG hw
  obtain ⟨mc3, el3, h3, -⟩ := CW.LU hw
  refine lv_aload_n hx hb dX4_best_0 rfl (lv_at hl 0 rfl) ?_
  refine lv_iload_n hx hb dX4_best_1 rfl (lv_at hl 1 rfl) ?_
  refine m_cV 1 [.int x] [] hx hb hml hown hts hK (c_isGuest l E A g M σ hv hw x) gX4_best_X4_isGuest rfl rfl rfl (by decide +kernel) rfl ⟨Nat.le_of_ble_eq_true rfl, Nat.le_of_ble_eq_true rfl⟩ hM (CW.x hw) rfl rfl hM hl.1 (Nat.le_of_ble_eq_true rfl) ⟨Nat.le_of_ble_eq_true rfl, Nat.le_of_ble_eq_true rfl⟩ rfl dX4_best_2 ?_
  refine lv_if_ne (tgt := 18) hx hb dX4_best_5 (by decide) (fun c9 => absurd (of_decide_eq_true (bI_t c9)) hbad) (fun c5 => ?_)
  have c5 := of_decide_eq_false (bI_f c5)
  obtain ⟨sa9, hsa9⟩ := hZ.txt (q := (151, "no such guest")) (by decide +kernel)
  exact vx_throwS (A := A) hx hb hl9 (cls := "java/lang/IndexOutOfBoundsException") (names := ["java/lang/RuntimeException", "java/lang/Exception"]) hown (by decide +kernel) (by decide +kernel) (hts (.classLink RX4 62 "java/lang/IndexOutOfBoundsException") (by decide +kernel)) (hts (.initialized "java/lang/IndexOutOfBoundsException") (by decide +kernel)) hsa9 (x_at66 hZ (fun w h => hts w (xs_X4_best_66 w h))) x_good66 hZ.2.2.2.1 hZ.2.2.2.2 va_S.rf (hl.1.trans hml.symm) dX4_best_8 dX4_best_11 dX4_best_12 dX4_best_14 dX4_best_17 (fun x h => (hnt x h).elim) (Nat.le_of_ble_eq_true rfl) (Nat.le_of_ble_eq_true rfl) (Nat.le_of_ble_eq_true rfl) (Nat.le_of_ble_eq_true rfl) hlocks (fun t _ h1 h2 => ⟨rfl, h1, fun q h3 _ => h2 q h3⟩) (fun z h => nomatch h) (Nat.le_of_ble_eq_true rfl) (Nat.le_of_ble_eq_true rfl)
theorem xs_X4_scares_66 : ∀ w ∈ (vx_atS RX4 66 "java/lang/IndexOutOfBoundsException" ["java/lang/RuntimeException", "java/lang/Exception"]).filter goodWord, w ∈ wsX4_scares := by decide +kernel
set_option maxHeartbeats 4000000 in
set_option maxRecDepth 100000 in
theorem x_scares1 (l : Launch) (hl9 : l.stackTraces = false) (E : gE) (A : Nat → Prop) (g : Nat → Nat) (M : gM) (σ : Sg) (hv : VS σ) (hw : CW E g M σ) (x : Int32) (hbad : ¬ (0 ≤ x ∧ x < nI (kG σ))) : vx_Met l yX4_scares wsX4_scares ({ frames := 6, cells := 1, slots := 6, locals := 140 } : Room) (Pz E A [.ref (g 0), .int x] (mP E A g M)) (fun _ _ _ _ => False) (XE "java/lang/IndexOutOfBoundsException") 1 6 (fun _ => False) := by
  refine x_entry (by decide) rfl (Nat.le_of_ble_eq_true rfl) ?_
  intro p e s m args below meth c hx hb hr hml hts hown hlocks hin hM hK hZ hnt ls hl
  have hl : lv_has ls 2 [(0, .ref (g 0)), (1, .int x)] := hl
  have hown : s.vm.findClass RX4 = some m.cls := hown
  obtain ⟨⟨hR9, hG9, hU9, hD9⟩, -⟩ := id hv
  obtain ⟨mc1, el1, h1, -⟩ := CW.LR hw
  obtain ⟨mc2, el2, h2, -⟩ := CW.LG hw
  obtain ⟨mc3, el3, h3, -⟩ := CW.LU hw
  refine lv_aload_n hx hb dX4_scares_0 rfl (lv_at hl 0 rfl) ?_
  refine lv_iload_n hx hb dX4_scares_1 rfl (lv_at hl 1 rfl) ?_
  refine m_cV 1 [.int x] [] hx hb hml hown hts hK (c_isGhost l E A g M σ hv hw x) gX4_scares_X4_isGhost rfl rfl rfl (by decide +kernel) rfl ⟨Nat.le_of_ble_eq_true rfl, Nat.le_of_ble_eq_true rfl⟩ hM (CW.x hw) rfl rfl hM hl.1 (Nat.le_of_ble_eq_true rfl) ⟨Nat.le_of_ble_eq_true rfl, Nat.le_of_ble_eq_true rfl⟩ rfl dX4_scares_2 ?_
  refine lv_if_ne (tgt := 18) hx hb dX4_scares_5 (by decide) (fun c9 => absurd (of_decide_eq_true (bI_t c9)) hbad) (fun c5 => ?_)
  have c5 := of_decide_eq_false (bI_f c5)
  obtain ⟨sa9, hsa9⟩ := hZ.txt (q := (105, "no such ghost")) (by decide +kernel)
  exact vx_throwS (A := A) hx hb hl9 (cls := "java/lang/IndexOutOfBoundsException") (names := ["java/lang/RuntimeException", "java/lang/Exception"]) hown (by decide +kernel) (by decide +kernel) (hts (.classLink RX4 62 "java/lang/IndexOutOfBoundsException") (by decide +kernel)) (hts (.initialized "java/lang/IndexOutOfBoundsException") (by decide +kernel)) hsa9 (x_at66 hZ (fun w h => hts w (xs_X4_scares_66 w h))) x_good66 hZ.2.2.2.1 hZ.2.2.2.2 va_S.rf (hl.1.trans hml.symm) dX4_scares_8 dX4_scares_11 dX4_scares_12 dX4_scares_14 dX4_scares_17 (fun x h => (hnt x h).elim) (Nat.le_of_ble_eq_true rfl) (Nat.le_of_ble_eq_true rfl) (Nat.le_of_ble_eq_true rfl) (Nat.le_of_ble_eq_true rfl) hlocks (fun t _ h1 h2 => ⟨rfl, h1, fun q h3 _ => h2 q h3⟩) (fun z h => nomatch h) (Nat.le_of_ble_eq_true rfl) (Nat.le_of_ble_eq_true rfl)
