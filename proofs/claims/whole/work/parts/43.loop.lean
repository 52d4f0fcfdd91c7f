/-! THE LAW'S LOOP -/
theorem sc_gt {L i : Nat} (hL : L ≤ 2560) (hi : i ≤ 6000) : (nI L - nI 5 < nI i) ↔ L < i + 5 := by
  rw [Int32.lt_iff_toInt_lt, pk_sub_toInt (by omega) (by omega), nI_toInt (by omega)]
  omega
set_option maxHeartbeats 4000000 in
set_option maxRecDepth 100000 in
theorem l_loop {p : Program} {l : Launch} {e : Env} {s : State} {m : MethodId} {below : List Frame} {meth : Method} {c : Code} {b L : Nat} {xs : Nat → Int32} {E : gE} {x0 m0 qo : Nat} (hx : p.tables.exec = Jvm.exec) (hb : c.code = cL_law) (hr : meth.sig.returnType = ret) (hml : c.maxLocals = 9) (hown : s.vm.findClass RL = some m.cls) (hts : ∀ w ∈ wsL_law, w.before #[Value.ref b] s = true) (hlocks : meth.locks = false) (hK : kK E s) (hZ : Zx E (fun q => s.heap.size ≤ q) s s.heap) (hX : va_X b L xs s s.heap) (hbl : b < s.heap.size) (hl9 : l.stackTraces = false) (hL : L ≤ 2560) (hmost : ∀ σ, VS σ → (mgS σ (kU σ)).1 = mdM σ (kU σ)) :
    ∀ (n i cells slots : Nat) (H : Heap) (locs : List Loc) (σ : Sg) (th : Int32) (f : Nat → Int64) (ls : Array Slot) (d0 : Drawn), s.drawn.sameBut d0 lw_cs → VY σ → va_S (fun q => s.heap.size ≤ q) s.heap H locs → LI E s.heap.size x0 m0 qo σ σ th f H → lv_has ls 9 [(4, .int (nI i)), (3, .ref qo), (2, .ref m0), (1, .ref x0), (0, .ref b)] → L < i + 5 * n + 5 → i ≤ 2560 → cells + 5 * n ≤ 601024 → slots + 68 * n ≤ 7293034 →
      W p l e room_1 (s.setDrawn d0) m #[Value.ref b] below meth c H locs cells slots (lw_Z below #[Value.ref b] s) (F0 m 23 ls []) := by
  intro n
  induction n with
  | zero =>
    intro i cells slots H locs σ th f ls d0 hd0 hv hS hI hl hn hi9 hfC hfS
    have hX1 : va_X b L xs (s.setDrawn d0) s.heap := hX.moved (Vm.Alike.refl _)
    have hK1 : kK E (s.setDrawn d0) := hK.moved (Vm.Alike.refl _)
    have hZ1 : Zx E (fun q => s.heap.size ≤ q) (s.setDrawn d0) s.heap := Zx.warm (State.WarmedH.refl s) hZ
    have hts1 := dr_words hts d0
    refine lv_iload hx hb dL_law_23 (lv_at hl 0 rfl) ?_
    refine lv_aload_n hx hb dL_law_25 rfl (lv_at hl 4 rfl) ?_
    refine va_slen hx hb hX1 hbl (Nat.not_le.mpr hbl) hS dL_law_26 ?_
    refine lv_iconst (v := nI 5) hx hb dL_law_27 (by decide) ?_
    refine lv_isub hx hb dL_law_28 ?_
    refine lv_icmp_gt (tgt := 1182) hx hb dL_law_29 (by decide) (fun hgt => ?_) (fun hgt => ?_)
    · refine lv_iconst (v := 1) hx hb dL_law_1182 (by decide) ?_
      refine va_forget (fun q hq => hS.2.2 q hq) ?_
      refine W.widen (show cells ≤ 601024 by omega) (show slots ≤ 7293034 by omega) ?_
      exact lw_ret hd0 hx hb hr hlocks dL_law_1183
    · exact absurd ((sc_gt hL (by omega)).mpr (by omega)) hgt
  | succ n ih =>
    intro i cells slots H locs σ th f ls d0 hd0 hv hS hI hl hn hi9 hfC hfS
    have hX1 : va_X b L xs (s.setDrawn d0) s.heap := hX.moved (Vm.Alike.refl _)
    have hK1 : kK E (s.setDrawn d0) := hK.moved (Vm.Alike.refl _)
    have hZ1 : Zx E (fun q => s.heap.size ≤ q) (s.setDrawn d0) s.heap := Zx.warm (State.WarmedH.refl s) hZ
    have hts1 := dr_words hts d0
    refine lv_iload hx hb dL_law_23 (lv_at hl 0 rfl) ?_
    refine lv_aload_n hx hb dL_law_25 rfl (lv_at hl 4 rfl) ?_
    refine va_slen hx hb hX1 hbl (Nat.not_le.mpr hbl) hS dL_law_26 ?_
    refine lv_iconst (v := nI 5) hx hb dL_law_27 (by decide) ?_
    refine lv_isub hx hb dL_law_28 ?_
    refine lv_icmp_gt (tgt := 1182) hx hb dL_law_29 (by decide) (fun hgt => ?_) (fun hgt => ?_)
    · refine lv_iconst (v := 1) hx hb dL_law_1182 (by decide) ?_
      refine va_forget (fun q hq => hS.2.2 q hq) ?_
      refine W.widen (show cells ≤ 601024 by omega) (show slots ≤ 7293034 by omega) ?_
      exact lw_ret hd0 hx hb hr hlocks dL_law_1183
    have hi5 : i + 4 < L := by
      rcases Nat.lt_or_ge L (i + 5) with q | q
      · exact absurd ((sc_gt hL (by omega)).mpr q) hgt
      · omega
    have kk9 : ∀ (H1 : Heap) (locs1 : List Loc) (σ1 : Sg) (th1 : Int32) (f1 : Nat → Int64) (ls1 : Array Slot) (d1 : Drawn), s.drawn.sameBut d1 lw_cs → VY σ1 → LI E s.heap.size x0 m0 qo σ1 σ1 th1 f1 H1 → va_S (fun q => s.heap.size ≤ q) s.heap H1 locs1 → lv_has ls1 9 [(4, .int (nI i)), (3, .ref qo), (2, .ref m0), (1, .ref x0), (0, .ref b)] → W p l e room_1 (s.setDrawn d1) m #[Value.ref b] below meth c H1 locs1 (cells + 5) (slots + 68) (lw_Z below #[Value.ref b] s) (F0 m 1176 ls1 []) := by
      intro H1 locs1 σ1 th1 f1 ls1 d1 hd1 hv1 hI1 hS1 hl1
      refine lv_iinc (v := nI (i + 5)) (lv' := [(4, .int (nI (i + 5))), (3, .ref qo), (2, .ref m0), (1, .ref x0), (0, .ref b)]) hx hb dL_law_1176 hl1 (k := 0) rfl (by rw [show Int32.ofInt 5 = nI 5 by decide]; exact nI_add i 5) (by decide) rfl (fun ls hl => ?_)
      refine lv_goto (tgt := 23) hx hb dL_law_1179 (by decide) ?_
      exact ih (i + 5) (cells + 5) (slots + 68) H1 locs1 σ1 th1 f1 ls d1 hd1 hv1 hS1 hI1 hl (by omega) (by omega) (by omega) (by omega)
    have hC5 : cells + 5 ≤ room_1.cells := show cells + 5 ≤ 601024 by omega
    have hC6 : slots + 68 ≤ room_1.slots := show slots + 68 ≤ 7293034 by omega
    refine lv_aload_n hx hb dL_law_32 rfl (lv_at hl 4 rfl) ?_
    refine lv_iload hx hb dL_law_33 (lv_at hl 0 rfl) ?_
    refine va_sld hx hb hX1 hbl (Nat.not_le.mpr hbl) hS (nI_in (show i < L by omega) (by omega)) dL_law_35 ?_
    refine lv_bipush (v := 31) hx hb dL_law_36 (by decide) ?_
    refine lv_iand hx hb dL_law_38 ?_
    generalize xs _ &&& 31 = x9
    by_cases hsw : x9.toInt < 0 ∨ 17 < x9.toInt
    · refine lv_tableOut (tgt := 1176) hx hb dL_law_39 hsw (by decide) ?_
      refine W.widen (Nat.le_add_right cells 5) (Nat.le_add_right slots 68) ?_
      exact kk9 H locs σ th f ls d0 hd0 hv hI hS hl
    · obtain ⟨k, hk, e9⟩ : ∃ k : Nat, k < 18 ∧ x9.toInt = (k : Int) := ⟨x9.toInt.toNat, by omega, by omega⟩
      rcases (show k = 0 ∨ k = 1 ∨ k = 2 ∨ k = 3 ∨ k = 4 ∨ k = 5 ∨ k = 6 ∨ k = 7 ∨ k = 8 ∨ k = 9 ∨ k = 10 ∨ k = 11 ∨ k = 12 ∨ k = 13 ∨ k = 14 ∨ k = 15 ∨ k = 16 ∨ k = 17 by omega) with rfl | rfl | rfl | rfl | rfl | rfl | rfl | rfl | rfl | rfl | rfl | rfl | rfl | rfl | rfl | rfl | rfl | rfl
      · refine lv_tableIn (off := 85) (tgt := 124) hx hb dL_law_39 (by rw [e9]; decide) (by rw [e9]; decide) (by rw [e9]; rfl) (by decide) ?_
        exact b_furnish (s := s.setDrawn d0) hx hb hml hown hts1 hK1 hZ1 hX1 hbl hl9 hi5 hL hv hS hI hl hC5 hC6 (fun H1 locs1 σ1 th1 f1 ls1 a1 a2 a3 a4 => kk9 H1 locs1 σ1 th1 f1 ls1 d0 hd0 a1 a2 a3 a4)
      · refine lv_tableIn (off := 165) (tgt := 204) hx hb dL_law_39 (by rw [e9]; decide) (by rw [e9]; decide) (by rw [e9]; rfl) (by decide) ?_
        exact b_door (s := s.setDrawn d0) hx hb hml hown hts1 hK1 hZ1 hX1 hbl hl9 hi5 hL hv hS hI hl hC5 hC6 (fun H1 locs1 σ1 th1 f1 ls1 a1 a2 a3 a4 => kk9 H1 locs1 σ1 th1 f1 ls1 d0 hd0 a1 a2 a3 a4)
      · refine lv_tableIn (off := 233) (tgt := 272) hx hb dL_law_39 (by rw [e9]; decide) (by rw [e9]; decide) (by rw [e9]; rfl) (by decide) ?_
        exact b_haunt (s := s.setDrawn d0) hx hb hml hown hts1 hK1 hZ1 hX1 hbl hl9 hi5 hL hv hS hI hl hC5 hC6 (fun H1 locs1 σ1 th1 f1 ls1 a1 a2 a3 a4 => kk9 H1 locs1 σ1 th1 f1 ls1 d0 hd0 a1 a2 a3 a4)
      · refine lv_tableIn (off := 325) (tgt := 364) hx hb dL_law_39 (by rw [e9]; decide) (by rw [e9]; decide) (by rw [e9]; rfl) (by decide) ?_
        exact b_at (s := s.setDrawn d0) hx hb hml hown hts1 hK1 hZ1 hX1 hbl hl9 hi5 hL hv hS hI hl hC5 hC6 (fun H1 locs1 σ1 th1 f1 ls1 a1 a2 a3 a4 => kk9 H1 locs1 σ1 th1 f1 ls1 d0 hd0 a1 a2 a3 a4)
      · refine lv_tableIn (off := 393) (tgt := 432) hx hb dL_law_39 (by rw [e9]; decide) (by rw [e9]; decide) (by rw [e9]; rfl) (by decide) ?_
        exact b_haunting (s := s.setDrawn d0) hx hb hml hown hts1 hK1 hZ1 hX1 hbl hl9 hi5 hL hv hS hI hl hC5 hC6 (fun H1 locs1 σ1 th1 f1 ls1 a1 a2 a3 a4 => kk9 H1 locs1 σ1 th1 f1 ls1 d0 hd0 a1 a2 a3 a4)
      · refine lv_tableIn (off := 461) (tgt := 500) hx hb dL_law_39 (by rw [e9]; decide) (by rw [e9]; decide) (by rw [e9]; rfl) (by decide) ?_
        exact b_room (s := s.setDrawn d0) hx hb hml hown hts1 hK1 hZ1 hX1 hbl hl9 hi5 hL hv hS hI hl hC5 hC6 (fun H1 locs1 σ1 th1 f1 ls1 a1 a2 a3 a4 => kk9 H1 locs1 σ1 th1 f1 ls1 d0 hd0 a1 a2 a3 a4)
      · refine lv_tableIn (off := 529) (tgt := 568) hx hb dL_law_39 (by rw [e9]; decide) (by rw [e9]; decide) (by rw [e9]; rfl) (by decide) ?_
        exact b_come (s := s.setDrawn d0) hx hb hml hown hts1 hK1 hZ1 hX1 hbl hl9 hi5 hL hv hS hI hl hC5 hC6 (fun H1 locs1 σ1 th1 f1 ls1 a1 a2 a3 a4 => kk9 H1 locs1 σ1 th1 f1 ls1 d0 hd0 a1 a2 a3 a4)
      · refine lv_tableIn (off := 609) (tgt := 648) hx hb dL_law_39 (by rw [e9]; decide) (by rw [e9]; decide) (by rw [e9]; rfl) (by decide) ?_
        exact b_bid (s := s.setDrawn d0) hx hb hml hown hts1 hK1 hZ1 hX1 hbl hl9 hi5 hL hv hS hI hl hC5 hC6 (fun H1 locs1 σ1 th1 f1 ls1 a1 a2 a3 a4 => kk9 H1 locs1 σ1 th1 f1 ls1 d0 hd0 a1 a2 a3 a4)
      · refine lv_tableIn (off := 696) (tgt := 735) hx hb dL_law_39 (by rw [e9]; decide) (by rw [e9]; decide) (by rw [e9]; rfl) (by decide) ?_
        exact b_leave (s := s.setDrawn d0) hx hb hml hown hts1 hK1 hZ1 hX1 hbl hl9 hi5 hL hv hS hI hl hC5 hC6 (fun H1 locs1 σ1 th1 f1 ls1 a1 a2 a3 a4 => kk9 H1 locs1 σ1 th1 f1 ls1 d0 hd0 a1 a2 a3 a4)
      · refine lv_tableIn (off := 752) (tgt := 791) hx hb dL_law_39 (by rw [e9]; decide) (by rw [e9]; decide) (by rw [e9]; rfl) (by decide) ?_
        exact b_guest (s := s.setDrawn d0) hx hb hml hown hts1 hK1 hZ1 hX1 hbl hl9 hi5 hL hv hS hI hl hC5 hC6 (fun H1 locs1 σ1 th1 f1 ls1 a1 a2 a3 a4 => kk9 H1 locs1 σ1 th1 f1 ls1 d0 hd0 a1 a2 a3 a4)
      · refine lv_tableIn (off := 820) (tgt := 859) hx hb dL_law_39 (by rw [e9]; decide) (by rw [e9]; decide) (by rw [e9]; rfl) (by decide) ?_
        exact b_wins (s := s.setDrawn d0) hx hb hml hown hts1 hK1 hZ1 hX1 hbl hl9 hi5 hL hv hS hI hl hC5 hC6 (fun H1 locs1 σ1 th1 f1 ls1 a1 a2 a3 a4 => kk9 H1 locs1 σ1 th1 f1 ls1 d0 hd0 a1 a2 a3 a4)
      · refine lv_tableIn (off := 888) (tgt := 927) hx hb dL_law_39 (by rw [e9]; decide) (by rw [e9]; decide) (by rw [e9]; rfl) (by decide) ?_
        exact b_night (s := s.setDrawn d0) hx hb hml hown hts1 hK1 hZ1 hX1 hbl hl9 hi5 hL hv hS hI hl hC5 hC6 (fun H1 locs1 σ1 th1 f1 ls1 a1 a2 a3 a4 => kk9 H1 locs1 σ1 th1 f1 ls1 d0 hd0 a1 a2 a3 a4)
      · refine lv_tableIn (off := 901) (tgt := 940) hx hb dL_law_39 (by rw [e9]; decide) (by rw [e9]; decide) (by rw [e9]; rfl) (by decide) ?_
        exact b_count (s := s.setDrawn d0) hx hb hml hown hts1 hK1 hZ1 hX1 hbl hl9 hi5 hL hv hS hI hl hC5 hC6 (fun H1 locs1 σ1 th1 f1 ls1 a1 a2 a3 a4 => kk9 H1 locs1 σ1 th1 f1 ls1 d0 hd0 a1 a2 a3 a4)
      · refine lv_tableIn (off := 957) (tgt := 996) hx hb dL_law_39 (by rw [e9]; decide) (by rw [e9]; decide) (by rw [e9]; rfl) (by decide) ?_
        exact b_best (s := s.setDrawn d0) hx hb hml hown hts1 hK1 hZ1 hX1 hbl hl9 hi5 hL hv hS hI hl hC5 hC6 (fun H1 locs1 σ1 th1 f1 ls1 a1 a2 a3 a4 => kk9 H1 locs1 σ1 th1 f1 ls1 d0 hd0 a1 a2 a3 a4)
      · refine lv_tableIn (off := 1013) (tgt := 1052) hx hb dL_law_39 (by rw [e9]; decide) (by rw [e9]; decide) (by rw [e9]; rfl) (by decide) ?_
        exact b_most (s := s.setDrawn d0) hx hb hml hown hts1 hK1 hZ1 hX1 hbl hl9 hi5 hL hv hS hI hl hC5 hC6 (hmost σ hv.1) (fun H1 locs1 σ1 th1 f1 ls1 a1 a2 a3 a4 => kk9 H1 locs1 σ1 th1 f1 ls1 d0 hd0 a1 a2 a3 a4)
      · refine lv_tableIn (off := 1026) (tgt := 1065) hx hb dL_law_39 (by rw [e9]; decide) (by rw [e9]; decide) (by rw [e9]; rfl) (by decide) ?_
        exact b_scares (s := s.setDrawn d0) hx hb hml hown hts1 hK1 hZ1 hX1 hbl hl9 hi5 hL hv hS hI hl hC5 hC6 (fun H1 locs1 σ1 th1 f1 ls1 a1 a2 a3 a4 => kk9 H1 locs1 σ1 th1 f1 ls1 d0 hd0 a1 a2 a3 a4)
      · refine lv_tableIn (off := 1082) (tgt := 1121) hx hb dL_law_39 (by rw [e9]; decide) (by rw [e9]; decide) (by rw [e9]; rfl) (by decide) ?_
        exact b_mean hx hb hml hown hd0 hts hK hX hbl hl9 hi5 hL hv hS hI hl hC5 hC6 (fun H1 locs1 σ1 th1 f1 ls1 d1 hd1 a1 a2 a3 a4 => kk9 H1 locs1 σ1 th1 f1 ls1 d1 hd1 a1 a2 a3 a4)
      · refine lv_tableIn (off := 1123) (tgt := 1162) hx hb dL_law_39 (by rw [e9]; decide) (by rw [e9]; decide) (by rw [e9]; rfl) (by decide) ?_
        exact b_digest (s := s.setDrawn d0) hx hb hml hown hts1 hK1 hZ1 hX1 hbl hl9 hi5 hL hv hS hI hl hC5 hC6 (fun H1 locs1 σ1 th1 f1 ls1 a1 a2 a3 a4 => kk9 H1 locs1 σ1 th1 f1 ls1 d0 hd0 a1 a2 a3 a4)
